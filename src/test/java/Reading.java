/**
 * All that can be read of an object, as one text. The object is used up by it: what has no reading call of its own
 * (hours, wants, bars, who missed, the tape's bytes) is told by calls that change it.
 */
final class Reading {
    private static final int NONE = TongueSwap.NONE;

    private final TongueSwap x;
    private final int learners;
    private final StringBuilder text = new StringBuilder();

    private Reading(TongueSwap x) {
        this.x = x;
        this.learners = x.count(0);
    }

    /** Some 250 calls for three learners; of more than three only the last three are read tongue by tongue. */
    static String of(TongueSwap x) {
        Reading reading = new Reading(x);
        reading.readCounts();
        reading.readLevels();
        reading.readWords();
        reading.readWeek();
        reading.readMarks();
        reading.useUp();
        return reading.text.toString();
    }

    private void note(String name, Object value) {
        text.append(name).append(' ').append(value).append("; ");
    }

    private void readCounts() {
        for (int what = 0; what < 5; what++) {
            note("count", x.count(what));
        }
        note("waits", Scene.waits(x));
    }

    private void readLevels() {
        for (int i = Math.max(0, learners - 3); i < learners; i++) {
            for (int t = 0; t < 8; t++) {
                for (int what = 0; what < 6; what++) {
                    note("level", x.level(i, t, what));
                }
            }
        }
    }

    private void readWords() {
        for (int i = 0; i < Math.min(3, learners); i++) {
            note("next", x.next(i));
            Object box = "";
            for (int w = 0; w < 41 && !box.equals("NoSuchElementException"); w++) {
                int who = i;
                int word = w;
                box = Check.answer(() -> x.wordOf(who, word, 0));
                note("box", box);
                note("due", Check.answer(() -> x.wordOf(who, word, 1)));
            }
        }
    }

    private void readWeek() {
        int rings = x.rings();
        for (int k = 0; k < rings; k++) {
            for (int what = 0; what < 6; what++) {
                note("ringOf", x.ringOf(k, what));
            }
        }
    }

    private void readMarks() {
        note("marks", Scene.marks(x));
        note("kinds", Scene.kinds(x));
    }

    private void useUp() {
        for (int i = 0; i < learners; i++) {
            note("missed", x.missed(i));
        }
        for (int a = 0; a < Math.min(3, learners); a++) {
            for (int b = a + 1; b < Math.min(3, learners); b++) {
                note("bar", x.bar(a, b, false));
            }
        }
        readWants();
        for (int i = 0; i < learners; i++) {
            note("hours", x.hours(i, -1));
        }
        x.week();
        note("then", Scene.rings(x));
        readTape();
    }

    /** The last learner (a new one, if there is room) claims every tongue, and so gives each the first want. */
    private void readWants() {
        int giver = x.learner(0);
        if (giver == NONE) {
            giver = learners - 1;
        }
        for (int t = 0; t < 8 && giver != NONE; t++) {
            x.claim(giver, t, 10);
        }
        for (int i = 0; i < Math.min(3, giver); i++) {
            int first = x.gift(giver, i);
            note("want", first);
            if (first != NONE) {
                x.claim(giver, first, 0);
                note("want", x.gift(giver, i));
                x.claim(giver, first, 10);
            }
            note("wants", x.unwant(i));
        }
    }

    private void readTape() {
        int half = x.count(4) / 2;
        note("cost", x.correct(half, half));
        note("marks", Scene.marks(x));
    }
}
