import java.util.Random;

/** Runs of calls drawn by fixed seeds, each answer compared with the plain model's. */
public final class RandomRunsTest {
    private static final int MOST_CALLS = 512;
    private static final Check check = new Check("random runs");

    private final Random random;
    private final TongueSwap real = new TongueSwap();
    private final PlainModel model = new PlainModel();
    private final StringBuilder story = new StringBuilder();
    private int calls;

    private RandomRunsTest(int seed) {
        random = new Random(seed);
    }

    public static void main(String[] args) {
        int runs = args.length > 0 ? Integer.parseInt(args[0]) : 750;
        int from = args.length > 1 ? Integer.parseInt(args[1]) : 0;
        for (int seed = from; seed < from + runs && !check.hasWrong(); seed++) {
            RandomRunsTest run = new RandomRunsTest(seed);
            switch (seed % 5) {
                case 0:
                    run.anyCalls();
                    break;
                case 1:
                    run.weeks(2 + seed / 5 % 13, 1 + seed % 3);
                    break;
                case 2:
                    run.corrections();
                    break;
                case 3:
                    run.triangles(3 + seed / 5 % 12);
                    break;
                default:
                    run.words();
            }
            if (check.hasWrong()) {
                System.out.println("seed " + seed + ":" + run.story);
            }
        }
        check.end();
    }

    /** The document speaks of an object's first 512 calls: later ones are left out. */
    private void ask(String name, int... p) {
        calls++;
        if (calls > MOST_CALLS) {
            return;
        }
        String call = name + java.util.Arrays.toString(p);
        story.append(' ').append(call);
        check.due(call, Check.answer(() -> Caller.call(real, name, p)), Check.answer(() -> model.call(name, p)));
    }

    private void anyCalls() {
        for (int i = 0; i < MOST_CALLS; i++) {
            String name = Caller.NAMES[random.nextInt(Caller.NAMES.length)];
            ask(name, Caller.anyArguments(name, random));
        }
    }

    private int someHours(int density) {
        int hours = random.nextInt();
        for (int i = 1; i < density; i++) {
            hours &= random.nextInt();
        }
        return hours;
    }

    private void weeks(int people, int density) {
        int tongues = 1 + random.nextInt(8);
        for (int i = 0; i < people; i++) {
            ask("learner", someHours(density + 1));
            for (int k = 0; k < 2; k++) {
                ask("claim", i, random.nextInt(tongues), 6 + random.nextInt(5));
                ask("want", i, random.nextInt(tongues));
            }
        }
        for (int w = 0; w < 12 && calls < MOST_CALLS; w++) {
            ask("week");
            ask("rings");
            for (int k = 0; k <= (Integer) model.call("rings", new int[0]); k++) {
                for (int what = 0; what < 6; what++) {
                    ask("ringOf", k, what);
                }
            }
            for (int i = 0; i < people; i++) {
                ask("waited", i);
            }
            for (int i = 0; i < 3; i++) {
                ask("missed", random.nextInt(people));
                ask("bar", random.nextInt(people), random.nextInt(people), random.nextInt(3) == 0 ? 1 : 0);
                ask("ring", random.nextInt(people), random.nextInt(people), random.nextInt(people + 1) - 1, random.nextInt(3));
                ask("hours", random.nextInt(people), someHours(density));
                ask("test", random.nextInt(people), random.nextInt(tongues), 1 + random.nextInt(10), random.nextInt(3));
                ask("gift", random.nextInt(people), random.nextInt(people));
            }
            ask("unwant", random.nextInt(people));
            ask("want", random.nextInt(people), random.nextInt(tongues));
            ask("count", random.nextInt(5));
        }
    }

    /** Gifts go round three tongues, so that most rings are of three; some go back, and make pairs. */
    private void triangles(int people) {
        for (int i = 0; i < people; i++) {
            ask("learner", random.nextInt(3) == 0 ? someHours(3) : -1);
            ask("claim", i, i % 3, 8);
            ask("want", i, (i + 2) % 3);
            if (random.nextInt(3) == 0) {
                ask("claim", i, 3 + random.nextInt(3), 8);
                ask("want", i, 3 + random.nextInt(3));
            }
        }
        for (int w = 0; w < 20 && calls < MOST_CALLS; w++) {
            ask("week");
            int rings = (Integer) model.call("rings", new int[0]);
            for (int k = 0; k < rings; k++) {
                for (int what = 0; what < 6; what++) {
                    ask("ringOf", k, what);
                }
            }
            ask("missed", random.nextInt(people));
            ask("waited", random.nextInt(people));
            ask("bar", random.nextInt(people), random.nextInt(people), random.nextInt(2));
            ask("want", random.nextInt(people), random.nextInt(6));
            ask("unwant", random.nextInt(people));
            ask("want", random.nextInt(people), random.nextInt(6));
        }
    }

    private void corrections() {
        int letters = 1 + random.nextInt(6);
        for (int i = 0; i < 8 && calls < MOST_CALLS; i++) {
            int feeds = 1 + random.nextInt(5);
            for (int k = 0; k < feeds; k++) {
                ask("feed", letters(letters), letters(letters), letters(letters), letters(letters), letters(letters));
            }
            int most = 1 + Math.min(40, 10 * feeds);
            ask("correct", random.nextInt(most), random.nextInt(most));
            for (int k = -2; k <= (Integer) model.call("mark", new int[] {-1}); k++) {
                ask("mark", k);
            }
            for (int kind = -1; kind <= 5; kind++) {
                ask("marks", kind);
            }
            ask("count", 4);
        }
    }

    private int letters(int count) {
        int four = 0;
        for (int i = 0; i < 4; i++) {
            four = four << 8 | 250 + random.nextInt(count);
        }
        return four;
    }

    private void words() {
        ask("learner", 0);
        ask("learner", 0);
        for (int i = 0; i < 120 && calls < MOST_CALLS; i++) {
            int who = random.nextInt(2);
            if (random.nextInt(3) == 0) {
                ask("word", who);
            }
            ask("next", who);
            ask("asked", who, random.nextInt(12), random.nextInt(4) == 0 ? 0 : 1);
            int word = random.nextInt(42);
            ask("wordOf", who, word, random.nextInt(3));
            ask("days", random.nextInt(4));
        }
    }
}
