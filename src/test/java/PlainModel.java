import java.util.ArrayList;
import java.util.HashMap;
import java.util.HashSet;
import java.util.List;
import java.util.Map;
import java.util.NoSuchElementException;
import java.util.Set;

/** The document once more, as plainly and slowly as it can be told, to compare the class with. */
final class PlainModel {
    static final class Person {
        int hours;
        int[] claim = new int[8];
        int[] low = new int[8];
        int[] high = {10, 10, 10, 10, 10, 10, 10, 10};
        int[] sound = new int[8];
        int[] odd = new int[8];
        List<Integer> wants = new ArrayList<>();
        List<int[]> words = new ArrayList<>();
        int waited;

        boolean has(int t) {
            return low[t] >= 7 || sound[t] == 0 && claim[t] >= 8;
        }
    }

    private final List<Person> people = new ArrayList<>();
    private final Set<String> bars = new HashSet<>();
    private List<int[]> latest = new ArrayList<>();
    private List<int[]> latestHours = new ArrayList<>();
    private final Set<Integer> away = new HashSet<>();
    private String tape = "";
    private String marks = "";
    private int day;
    private int weeks;
    private int served;

    Object call(String name, int[] p) {
        switch (name) {
            case "learner": return addPerson(p[0]);
            case "hours": return changeHours(person(p[0]), p[1]);
            case "claim": return claim(person(p[0]), tongue(p[1]), p[2]);
            case "want": return want(person(p[0]), tongue(p[1]));
            case "unwant": return unwant(person(p[0]));
            case "bar": return bar(p[0], p[1], p[2] != 0);
            case "test": return test(person(p[0]), tongue(p[1]), p[2], p[3] != 0);
            case "level": return level(person(p[0]), tongue(p[1]), p[2]);
            case "gift": return two(p[0], p[1]) ? gift(p[0], p[1]) : NoSuchElementException.class;
            case "meet": return two(p[0], p[1]) ? firstOf(hoursOf(p[0], p[1])) : NoSuchElementException.class;
            case "ring": return ring(p[0], p[1], p[2], p[3]);
            case "week": return week();
            case "rings": return latest.size();
            case "ringOf": return ringOf(p[0], p[1]);
            case "missed": return missed(p[0]);
            case "waited": return person(p[0]).waited;
            case "days": return days(p[0]);
            case "word": return word(person(p[0]));
            case "asked": return asked(wordAt(p[0], p[1]), p[2] != 0);
            case "wordOf": return part(wordAt(p[0], p[1]), p[2]);
            case "next": return next(person(p[0]));
            case "feed": return feed(p);
            case "correct": return correct(p[0], p[1]);
            case "mark": return mark(p[0]);
            case "marks": return kindCount(p[0]);
            case "count": return part(new int[] {people.size(), day, weeks, served, tape.length()}, p[0]);
            default: throw new IllegalStateException(name);
        }
    }

    private static NoSuchElementException none() {
        return new NoSuchElementException();
    }

    private Person person(int i) {
        if (i < 0 || i >= people.size()) {
            throw none();
        }
        return people.get(i);
    }

    private static int tongue(int t) {
        if (t < 0 || t > 7) {
            throw none();
        }
        return t;
    }

    private static int part(int[] row, int i) {
        if (i < 0 || i >= row.length) {
            throw none();
        }
        return row[i];
    }

    private boolean two(int a, int b) {
        person(a);
        person(b);
        if (a == b) {
            throw none();
        }
        return true;
    }

    private int addPerson(int hours) {
        if (people.size() == 14) {
            return -1;
        }
        Person one = new Person();
        changeHours(one, hours);
        people.add(one);
        return people.size() - 1;
    }

    private static int changeHours(Person one, int hours) {
        int before = one.hours;
        one.hours = hours & 0xFFFFFF;
        return before;
    }

    private static int claim(Person one, int t, int level) {
        if (level < 0 || level > 10) {
            throw new IllegalArgumentException();
        }
        int before = one.claim[t];
        one.claim[t] = level;
        return before;
    }

    private static int want(Person one, int t) {
        if (one.wants.size() == 2 || one.wants.contains(t)) {
            return -1;
        }
        one.wants.add(t);
        return one.wants.size();
    }

    private static int unwant(Person one) {
        int before = one.wants.size();
        one.wants.clear();
        return before;
    }

    private boolean bar(int a, int b, boolean is) {
        two(a, b);
        String key = Math.min(a, b) + " " + Math.max(a, b);
        return is ? !bars.add(key) : bars.remove(key);
    }

    private static boolean test(Person one, int t, int g, boolean passed) {
        if (g < 1 || g > 10) {
            throw new IllegalArgumentException();
        }
        boolean isOdd = passed ? g - 1 > one.high[t] : one.low[t] > g;
        if (isOdd) {
            one.odd[t]++;
            return false;
        }
        one.sound[t]++;
        if (passed && one.low[t] < g - 1) {
            one.low[t] = g - 1;
        }
        if (!passed && one.high[t] > g) {
            one.high[t] = g;
        }
        return true;
    }

    private static int level(Person one, int t, int what) {
        return part(new int[] {one.low[t], one.high[t], one.claim[t], one.sound[t], one.odd[t], one.has(t) ? 1 : 0}, what);
    }

    private int gift(int a, int b) {
        for (int t : person(b).wants) {
            if (person(a).has(t)) {
                return t;
            }
        }
        return -1;
    }

    private List<Integer> hoursOf(int a, int b) {
        List<Integer> all = new ArrayList<>();
        if (bars.contains(Math.min(a, b) + " " + Math.max(a, b))) {
            return all;
        }
        for (int h = 0; h < 24; h++) {
            if ((person(a).hours >> h & 1) == 1 && (person(b).hours >> h & 1) == 1) {
                all.add(h);
            }
        }
        return all;
    }

    private static int firstOf(List<Integer> row) {
        return row.isEmpty() ? -1 : row.get(0);
    }

    /** The hours of a row of learners, or null: it is no ring. */
    private int[] ringHours(int[] row) {
        for (int i = 0; i < row.length; i++) {
            int next = row[(i + 1) % row.length];
            if (i > 0 && row[i] <= row[0] || row[i] == next || gift(row[i], next) == -1) {
                return null;
            }
        }
        if (row.length == 2) {
            int hour = firstOf(hoursOf(row[0], row[1]));
            return hour == -1 ? null : new int[] {hour};
        }
        for (int x : hoursOf(row[0], row[1])) {
            for (int y : hoursOf(row[1], row[2])) {
                for (int z : hoursOf(row[2], row[0])) {
                    if (x != y && y != z && z != x) {
                        return new int[] {x, y, z};
                    }
                }
            }
        }
        return null;
    }

    private int ring(int a, int b, int c, int i) {
        person(a);
        person(b);
        if (c != -1) {
            person(c);
        }
        if (i < 0 || i > 2 || c == -1 && i > 0) {
            throw none();
        }
        int[] hours = ringHours(c == -1 ? new int[] {a, b} : new int[] {a, b, c});
        return hours == null ? -1 : hours[i];
    }

    private int week() {
        latest = new RingSets(allRings(), people).best();
        latestHours = new ArrayList<>();
        away.clear();
        Set<Integer> met = new HashSet<>();
        for (int[] row : latest) {
            latestHours.add(ringHours(row));
            for (int who : row) {
                met.add(who);
            }
        }
        for (int i = 0; i < people.size(); i++) {
            Person one = person(i);
            one.waited = met.contains(i) ? 0 : Math.min(20, one.waited + 1);
        }
        day += 7;
        weeks++;
        served += met.size();
        return met.size();
    }

    private List<int[]> allRings() {
        List<int[]> all = new ArrayList<>();
        for (int a = 0; a < people.size(); a++) {
            for (int b = 0; b < people.size(); b++) {
                addRing(all, new int[] {a, b});
                for (int c = 0; c < people.size(); c++) {
                    addRing(all, new int[] {a, b, c});
                }
            }
        }
        return all;
    }

    private void addRing(List<int[]> all, int[] row) {
        if (ringHours(row) != null) {
            all.add(row);
        }
    }

    private int ringOf(int k, int what) {
        if (k < 0 || k >= latest.size() || what < 0 || what > 5) {
            throw none();
        }
        int[] row = what < 3 ? latest.get(k) : latestHours.get(k);
        return what % 3 < row.length ? row[what % 3] : -1;
    }

    private boolean missed(int i) {
        person(i);
        for (int[] row : latest) {
            for (int who : row) {
                if (who == i) {
                    return away.add(i) && others(row, i);
                }
            }
        }
        return false;
    }

    private boolean others(int[] row, int i) {
        for (int who : row) {
            if (who != i) {
                person(who).waited = Math.min(20, person(who).waited + 3);
            }
        }
        return true;
    }

    private int days(int n) {
        if (n < 0 || n > 1000) {
            throw new IllegalArgumentException();
        }
        day += n;
        return day;
    }

    private int word(Person one) {
        if (one.words.size() == 40) {
            return -1;
        }
        one.words.add(new int[] {0, day});
        return one.words.size() - 1;
    }

    private int[] wordAt(int i, int w) {
        Person one = person(i);
        if (w < 0 || w >= one.words.size()) {
            throw none();
        }
        return one.words.get(w);
    }

    private boolean asked(int[] word, boolean right) {
        if (word[1] > day) {
            return false;
        }
        int[] spans = {1, 2, 4, 8, 16, 32};
        word[0] = right ? Math.min(5, word[0] + 1) : 0;
        word[1] = day + spans[word[0]];
        return true;
    }

    private int next(Person one) {
        for (int d = 0; d <= day; d++) {
            for (int w = 0; w < one.words.size(); w++) {
                if (one.words.get(w)[1] == d) {
                    return w;
                }
            }
        }
        return -1;
    }

    private int feed(int[] numbers) {
        if (tape.length() + 20 > 80) {
            return -1;
        }
        for (int number : numbers) {
            for (int i = 0; i < 4; i++) {
                tape += (char) (number >> 24 - 8 * i & 255);
            }
        }
        return tape.length();
    }

    private int correct(int n, int m) {
        if (n < 0 || n > 40 || m < 0 || m > 40 || n + m > tape.length()) {
            throw new IllegalArgumentException();
        }
        marks = bestMarks(tape.substring(0, n), tape.substring(n, n + m), new HashMap<>());
        tape = "";
        return costOf(marks);
    }

    private static int costOf(String row) {
        int cost = 0;
        for (char kind : row.toCharArray()) {
            cost += new int[] {0, 3, 2, 2, 2}[kind - '0'];
        }
        return cost;
    }

    private static String bestMarks(String said, String meant, Map<String, String> known) {
        if (said.isEmpty() && meant.isEmpty()) {
            return "";
        }
        String key = said.length() + " " + meant.length();
        if (known.containsKey(key)) {
            return known.get(key);
        }
        int n = said.length();
        int m = meant.length();
        List<String> ways = new ArrayList<>();
        if (n > 0 && m > 0) {
            String mark = said.charAt(0) == meant.charAt(0) ? "0" : "1";
            ways.add(mark + bestMarks(said.substring(1), meant.substring(1), known));
        }
        if (n > 0) {
            ways.add("2" + bestMarks(said.substring(1), meant, known));
        }
        if (m > 0) {
            ways.add("3" + bestMarks(said, meant.substring(1), known));
        }
        if (n > 1 && m > 1 && said.charAt(0) != said.charAt(1)
                && meant.startsWith("" + said.charAt(1) + said.charAt(0))) {
            ways.add("4" + bestMarks(said.substring(2), meant.substring(2), known));
        }
        String best = null;
        for (String way : ways) {
            if (best == null || costOf(way) < costOf(best) || costOf(way) == costOf(best) && way.compareTo(best) < 0) {
                best = way;
            }
        }
        known.put(key, best);
        return best;
    }

    private int mark(int i) {
        if (i == -1) {
            return marks.length();
        }
        if (i < 0 || i >= marks.length()) {
            throw none();
        }
        return marks.charAt(i) - '0';
    }

    private int kindCount(int kind) {
        if (kind < 0 || kind > 4) {
            throw none();
        }
        int sum = 0;
        for (char c : marks.toCharArray()) {
            sum += c - '0' == kind ? 1 : 0;
        }
        return sum;
    }
}
