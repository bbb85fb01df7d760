import java.util.ArrayList;
import java.util.HashMap;
import java.util.List;
import java.util.Map;

/** The best set of rings by comparing whole sets: all of them where they are few, else the best of each remainder. */
final class RingSets {
    private static final int FEW = 40;

    private final List<int[]> rings;
    private final List<PlainModel.Person> people;
    private final Map<Integer, List<int[]>> known = new HashMap<>();
    private List<int[]> best = new ArrayList<>();

    RingSets(List<int[]> rings, List<PlainModel.Person> people) {
        this.rings = rings;
        this.people = people;
    }

    List<int[]> best() {
        if (rings.size() > FEW) {
            return bestOf((1 << people.size()) - 1);
        }
        tryAll(0, 0, new ArrayList<>());
        return best;
    }

    /** Every set without a learner twice, its rings in the order of all rings (which is that of rows). */
    private void tryAll(int from, int used, List<int[]> chosen) {
        if (isBetter(chosen, best)) {
            best = new ArrayList<>(chosen);
        }
        for (int r = from; r < rings.size(); r++) {
            if ((used & maskOf(rings.get(r))) == 0) {
                chosen.add(rings.get(r));
                tryAll(r + 1, used | maskOf(rings.get(r)), chosen);
                chosen.remove(chosen.size() - 1);
            }
        }
    }

    private List<int[]> bestOf(int free) {
        if (free == 0) {
            return new ArrayList<>();
        }
        if (known.containsKey(free)) {
            return known.get(free);
        }
        int least = Integer.lowestOneBit(free);
        List<int[]> found = bestOf(free ^ least);
        for (int[] ring : rings) {
            int mask = maskOf(ring);
            if ((mask & least) != 0 && (mask & free) == mask) {
                List<int[]> set = new ArrayList<>();
                set.add(ring);
                set.addAll(bestOf(free ^ mask));
                if (isBetter(set, found)) {
                    found = set;
                }
            }
        }
        known.put(free, found);
        return found;
    }

    private static int maskOf(int[] ring) {
        int mask = 0;
        for (int who : ring) {
            mask |= 1 << who;
        }
        return mask;
    }

    private boolean isBetter(List<int[]> a, List<int[]> b) {
        if (weightOf(a) != weightOf(b)) {
            return weightOf(a) > weightOf(b);
        }
        if (threesOf(a) != threesOf(b)) {
            return threesOf(a) < threesOf(b);
        }
        for (int k = 0; k < a.size() && k < b.size(); k++) {
            int order = java.util.Arrays.compare(a.get(k), b.get(k));
            if (order != 0) {
                return order < 0;
            }
        }
        return a.size() > b.size();
    }

    private int weightOf(List<int[]> set) {
        int sum = 0;
        for (int[] ring : set) {
            for (int who : ring) {
                sum += 1 + people.get(who).waited;
            }
        }
        return sum;
    }

    private static int threesOf(List<int[]> set) {
        int sum = 0;
        for (int[] ring : set) {
            sum += ring.length == 3 ? 1 : 0;
        }
        return sum;
    }
}
