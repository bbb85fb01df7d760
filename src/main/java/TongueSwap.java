import java.util.NoSuchElementException;

/** An exchange of tongues: learners, levels, weekly rings of givers, corrections and words that come back. */
public final class TongueSwap {
    public static final int NONE = -1;

    private static final int MOST_LEARNERS = 14;
    private static final int TONGUE_COUNT = 8;
    private static final int HOUR_COUNT = 24;
    private static final int ALL_HOURS = (1 << HOUR_COUNT) - 1;
    private static final int TOP_LEVEL = 10;
    private static final int MOST_WANTS = 2;
    private static final int LONGEST_WAIT = 20;
    private static final int WAIT_FOR_MISSED = 3;
    private static final int DAYS_OF_WEEK = 7;
    private static final int MOST_DAYS = 1000;
    private static final int MOST_WORDS = 40;
    private static final int TOP_BOX = 5;
    /** All pairs and all triples of 14: of the two rows of one triple only the first is ever needed. */
    private static final int MOST_RINGS = 91 + 364;
    private static final int MOST_RINGS_TAKEN = MOST_LEARNERS / 2;
    private static final int RING_SIZE = 3;
    private static final int RING_FIELDS = 2 * RING_SIZE;
    /** An hour takes five bits where the hours of a ring are held in one number. */
    private static final int HOUR_BITS = 5;
    private static final int HOUR_MASK = (1 << HOUR_BITS) - 1;

    private final Learner[] learners = new Learner[MOST_LEARNERS];
    private final Ties ties = new Ties();
    private final Planner planner = new Planner();
    private final Tape tape = new Tape();
    private final int[] taken = new int[MOST_RINGS_TAKEN * RING_FIELDS];
    private int takenCount;
    private int learnerCount;
    private int today;
    private int weeksSoFar;
    private int servedSoFar;

    public TongueSwap() {
    }

    public int learner(int hours) {
        if (learnerCount >= MOST_LEARNERS) {
            return NONE;
        }
        learners[learnerCount] = new Learner(hours & ALL_HOURS);
        learnerCount++;
        return learnerCount - 1;
    }

    public int hours(int learner, int hours) throws NoSuchElementException {
        Learner who = find(learner);
        int before = who.hours;
        who.hours = hours & ALL_HOURS;
        return before;
    }

    public int claim(int learner, int tongue, int level) throws NoSuchElementException, IllegalArgumentException {
        Learner who = find(learner);
        requireTongue(tongue);
        if (level < 0 || level > TOP_LEVEL) {
            throw new IllegalArgumentException("a claim is 0 to 10");
        }
        int before = who.claims[tongue];
        who.claims[tongue] = level;
        return before;
    }

    public int want(int learner, int tongue) throws NoSuchElementException {
        Learner who = find(learner);
        requireTongue(tongue);
        return who.addWant(tongue);
    }

    public int unwant(int learner) throws NoSuchElementException {
        Learner who = find(learner);
        int before = who.wantCount;
        who.wantCount = 0;
        return before;
    }

    public boolean bar(int a, int b, boolean is) throws NoSuchElementException {
        requireTwo(a, b);
        Learner first = find(a);
        Learner second = find(b);
        boolean before = first.isBarred(b);
        first.setBar(b, is);
        second.setBar(a, is);
        return before;
    }

    public boolean test(int learner, int tongue, int grade, boolean passed) throws NoSuchElementException, IllegalArgumentException {
        Learner who = find(learner);
        requireTongue(tongue);
        if (grade < 1 || grade > TOP_LEVEL) {
            throw new IllegalArgumentException("a grade is 1 to 10");
        }
        return who.takeTest(tongue, grade, passed);
    }

    public int level(int learner, int tongue, int what) throws NoSuchElementException {
        Learner who = find(learner);
        requireTongue(tongue);
        switch (what) {
            case 0:
                return who.lows[tongue];
            case 1:
                return who.highs[tongue];
            case 2:
                return who.claims[tongue];
            case 3:
                return who.soundTests[tongue];
            case 4:
                return who.oddTests[tongue];
            case 5:
                return who.has(tongue) ? 1 : 0;
            default:
                throw new NoSuchElementException("a level has no such part");
        }
    }

    public int gift(int a, int b) throws NoSuchElementException {
        requireTwo(a, b);
        return find(a).giftTo(find(b));
    }

    public int meet(int a, int b) throws NoSuchElementException {
        requireTwo(a, b);
        return lowestBit(commonHours(a, b));
    }

    public int ring(int a, int b, int c, int i) throws NoSuchElementException {
        find(a);
        find(b);
        if (c != NONE) {
            find(c);
        }
        int hourCount = c == NONE ? 1 : RING_SIZE;
        if (i < 0 || i >= hourCount) {
            throw new NoSuchElementException("a ring has no such hour");
        }
        lookAtTies();
        int hours = ties.ringHours(a, b, c);
        return hours == NONE ? NONE : hourAt(hours, i);
    }

    public int week() {
        lookAtTies();
        planner.begin(learnerCount);
        for (int i = 0; i < learnerCount; i++) {
            planner.setWeight(i, 1 + find(i).waited);
        }
        planner.gather(ties);
        planner.choose();
        int everyone = (1 << learnerCount) - 1;
        int served = takeRings(everyone);
        noteWeek(served);
        today += DAYS_OF_WEEK;
        weeksSoFar++;
        int servedCount = Integer.bitCount(served);
        servedSoFar += servedCount;
        return servedCount;
    }

    public int rings() {
        return takenCount;
    }

    public int ringOf(int k, int what) throws NoSuchElementException {
        if (k < 0 || k >= takenCount) {
            throw new NoSuchElementException("no such ring");
        }
        if (what < 0 || what >= RING_FIELDS) {
            throw new NoSuchElementException("a ring has no such part");
        }
        return taken[k * RING_FIELDS + what];
    }

    public boolean missed(int learner) throws NoSuchElementException {
        Learner who = find(learner);
        if (who.company == 0 || who.wasAway) {
            return false;
        }
        who.wasAway = true;
        for (int i = 0; i < learnerCount; i++) {
            if ((who.company >> i & 1) != 0) {
                find(i).waitLonger(WAIT_FOR_MISSED);
            }
        }
        return true;
    }

    public int waited(int learner) throws NoSuchElementException {
        return find(learner).waited;
    }

    public int days(int n) throws IllegalArgumentException {
        if (n < 0 || n > MOST_DAYS) {
            throw new IllegalArgumentException("days are 0 to 1000");
        }
        today += n;
        return today;
    }

    public int word(int learner) throws NoSuchElementException {
        return find(learner).addWord(today);
    }

    public boolean asked(int learner, int word, boolean right) throws NoSuchElementException {
        Learner who = find(learner);
        requireWord(who, word);
        return who.answerWord(word, right, today);
    }

    public int wordOf(int learner, int word, int what) throws NoSuchElementException {
        Learner who = find(learner);
        requireWord(who, word);
        switch (what) {
            case 0:
                return who.boxes[word];
            case 1:
                return who.dueDays[word];
            default:
                throw new NoSuchElementException("a word has no such part");
        }
    }

    public int next(int learner) throws NoSuchElementException {
        return find(learner).firstDue(today);
    }

    public int feed(int a, int b, int c, int d, int e) {
        if (!tape.hasRoom()) {
            return NONE;
        }
        tape.append(a);
        tape.append(b);
        tape.append(c);
        tape.append(d);
        tape.append(e);
        return tape.length;
    }

    public int correct(int n, int m) throws IllegalArgumentException {
        if (n < 0 || n > Tape.MOST_BYTES || m < 0 || m > Tape.MOST_BYTES) {
            throw new IllegalArgumentException("a row has 0 to 40 bytes");
        }
        if (n + m > tape.length) {
            throw new IllegalArgumentException("the tape has not so many bytes");
        }
        return tape.compare(n, m);
    }

    public int mark(int i) throws NoSuchElementException {
        if (i == NONE) {
            return tape.markCount;
        }
        if (i < 0 || i >= tape.markCount) {
            throw new NoSuchElementException("no such mark");
        }
        return tape.marksMade[i];
    }

    public int marks(int kind) throws NoSuchElementException {
        if (kind < 0 || kind >= Tape.KINDS) {
            throw new NoSuchElementException("no such kind of mark");
        }
        return tape.kindCounts[kind];
    }

    public int count(int what) throws NoSuchElementException {
        switch (what) {
            case 0:
                return learnerCount;
            case 1:
                return today;
            case 2:
                return weeksSoFar;
            case 3:
                return servedSoFar;
            case 4:
                return tape.length;
            default:
                throw new NoSuchElementException("no such count");
        }
    }

    private Learner find(int learner) {
        if (learner < 0 || learner >= learnerCount) {
            throw new NoSuchElementException("no such learner");
        }
        Learner found = learners[learner];
        if (found == null) {
            throw new NoSuchElementException("no such learner");
        }
        return found;
    }

    private void requireTwo(int a, int b) {
        find(a);
        find(b);
        if (a == b) {
            throw new NoSuchElementException("both are one");
        }
    }

    private static void requireTongue(int tongue) {
        if (tongue < 0 || tongue >= TONGUE_COUNT) {
            throw new NoSuchElementException("no such tongue");
        }
    }

    private static void requireWord(Learner who, int word) {
        if (word < 0 || word >= who.wordCount) {
            throw new NoSuchElementException("no such word");
        }
    }

    private int commonHours(int a, int b) {
        Learner first = find(a);
        return first.isBarred(b) ? 0 : first.hours & find(b).hours;
    }

    private static int lowestBit(int bits) {
        return bits == 0 ? NONE : Integer.numberOfTrailingZeros(bits);
    }

    private static int hourAt(int packedHours, int i) {
        return packedHours >> HOUR_BITS * i & HOUR_MASK;
    }

    private void lookAtTies() {
        for (int a = 0; a < learnerCount; a++) {
            Learner giver = find(a);
            for (int b = 0; b < learnerCount; b++) {
                if (a != b) {
                    ties.setTie(a, b, giver.giftTo(find(b)) != NONE, commonHours(a, b));
                }
            }
        }
    }

    /** Writes down the rings that were chosen; answers their learners, a bit each. */
    private int takeRings(int everyone) {
        takenCount = 0;
        int free = everyone;
        for (int step = 0; step < MOST_LEARNERS && free != 0; step++) {
            int r = planner.choiceAt(free);
            if (r == NONE) {
                free &= free - 1;
            } else {
                takeRing(r);
                free &= ~planner.members[r];
            }
        }
        int served = 0;
        for (int k = 0; k < takenCount; k++) {
            served |= membersOfTaken(k);
        }
        return served;
    }

    private void takeRing(int r) {
        if (takenCount >= MOST_RINGS_TAKEN) {
            return;
        }
        int a = lowestBit(planner.members[r]);
        int b = planner.seconds[r];
        int c = planner.thirds[r];
        int hours = ties.ringHours(a, b, c);
        int at = takenCount * RING_FIELDS;
        taken[at] = a;
        taken[at + 1] = b;
        taken[at + 2] = c;
        taken[at + 3] = hourAt(hours, 0);
        taken[at + 4] = c == NONE ? NONE : hourAt(hours, 1);
        taken[at + 5] = c == NONE ? NONE : hourAt(hours, 2);
        takenCount++;
    }

    private int membersOfTaken(int k) {
        int members = 0;
        for (int i = 0; i < RING_SIZE; i++) {
            int learner = taken[k * RING_FIELDS + i];
            if (learner != NONE) {
                members |= 1 << learner;
            }
        }
        return members;
    }

    private void noteWeek(int served) {
        for (int i = 0; i < learnerCount; i++) {
            Learner who = find(i);
            who.company = 0;
            who.wasAway = false;
            if ((served >> i & 1) != 0) {
                who.waited = 0;
            } else {
                who.waitLonger(1);
            }
        }
        for (int k = 0; k < takenCount; k++) {
            int members = membersOfTaken(k);
            for (int i = 0; i < learnerCount; i++) {
                if ((members >> i & 1) != 0) {
                    find(i).company = members & ~(1 << i);
                }
            }
        }
    }

    /** One who gives and takes: hours, levels, wants, weeks waited and words. */
    private static final class Learner {
        private static final int LOW_THAT_HAS = 7;
        private static final int CLAIM_THAT_HAS = 8;

        private final int[] claims = new int[TONGUE_COUNT];
        private final int[] lows = new int[TONGUE_COUNT];
        private final int[] highs = new int[TONGUE_COUNT];
        private final int[] soundTests = new int[TONGUE_COUNT];
        private final int[] oddTests = new int[TONGUE_COUNT];
        private final int[] wants = new int[MOST_WANTS];
        private final int[] boxes = new int[MOST_WORDS];
        private final int[] dueDays = new int[MOST_WORDS];
        private int hours;
        private int wantCount;
        private int wordCount;
        private int waited;
        /** A bit for each learner behind a bar. */
        private int barred;
        /** A bit for each learner to meet in the latest week. */
        private int company;
        private boolean wasAway;

        Learner(int hours) {
            this.hours = hours;
            for (int t = 0; t < TONGUE_COUNT; t++) {
                highs[t] = TOP_LEVEL;
            }
        }

        int addWant(int tongue) {
            if (wantCount >= MOST_WANTS) {
                return NONE;
            }
            for (int i = 0; i < wantCount; i++) {
                if (wants[i] == tongue) {
                    return NONE;
                }
            }
            wants[wantCount] = tongue;
            wantCount++;
            return wantCount;
        }

        boolean isBarred(int other) {
            return (barred >> other & 1) != 0;
        }

        void setBar(int other, boolean is) {
            barred = is ? barred | 1 << other : barred & ~(1 << other);
        }

        boolean takeTest(int tongue, int grade, boolean passed) {
            int low = passed ? Math.max(lows[tongue], grade - 1) : lows[tongue];
            int high = passed ? highs[tongue] : Math.min(highs[tongue], grade);
            if (low > high) {
                oddTests[tongue]++;
                return false;
            }
            lows[tongue] = low;
            highs[tongue] = high;
            soundTests[tongue]++;
            return true;
        }

        boolean has(int tongue) {
            return lows[tongue] >= LOW_THAT_HAS
                || soundTests[tongue] == 0 && claims[tongue] >= CLAIM_THAT_HAS;
        }

        int giftTo(Learner other) {
            for (int i = 0; i < other.wantCount; i++) {
                if (has(other.wants[i])) {
                    return other.wants[i];
                }
            }
            return NONE;
        }

        void waitLonger(int weeks) {
            waited = Math.min(LONGEST_WAIT, waited + weeks);
        }

        int addWord(int today) {
            if (wordCount >= MOST_WORDS) {
                return NONE;
            }
            boxes[wordCount] = 0;
            dueDays[wordCount] = today;
            wordCount++;
            return wordCount - 1;
        }

        boolean answerWord(int word, boolean right, int today) {
            if (dueDays[word] > today) {
                return false;
            }
            boxes[word] = right ? Math.min(TOP_BOX, boxes[word] + 1) : 0;
            dueDays[word] = today + (1 << boxes[word]);
            return true;
        }

        int firstDue(int today) {
            int first = NONE;
            for (int w = 0; w < wordCount; w++) {
                if (dueDays[w] <= today && (first == NONE || dueDays[w] < dueDays[first])) {
                    first = w;
                }
            }
            return first;
        }
    }

    /** Who gives to whom, and in which hours two can meet, as it stands in one call. */
    private static final class Ties {
        /** For each giver a bit for each one who is given to. */
        private final int[] receivers = new int[MOST_LEARNERS];
        private final int[] sharedHours = new int[MOST_LEARNERS * MOST_LEARNERS];

        void setTie(int a, int b, boolean isGift, int hours) {
            receivers[a] = isGift ? receivers[a] | 1 << b : receivers[a] & ~(1 << b);
            sharedHours[a * MOST_LEARNERS + b] = hours;
        }

        boolean gives(int a, int b) {
            return (receivers[a] >> b & 1) != 0;
        }

        /** The hours of a ring in one number, the first lowest; NONE: it is no ring. */
        int ringHours(int a, int b, int c) {
            return c == NONE ? pairHours(a, b) : tripleHours(a, b, c);
        }

        private int pairHours(int a, int b) {
            if (b <= a || !gives(a, b) || !gives(b, a)) {
                return NONE;
            }
            return lowestBit(shared(a, b));
        }

        private int tripleHours(int a, int b, int c) {
            if (b <= a || c <= a || b == c) {
                return NONE;
            }
            if (!gives(a, b) || !gives(b, c) || !gives(c, a)) {
                return NONE;
            }
            return firstUnlikeHours(shared(a, b), shared(b, c), shared(c, a));
        }

        private int shared(int a, int b) {
            return sharedHours[a * MOST_LEARNERS + b];
        }

        private static int firstUnlikeHours(int first, int second, int third) {
            if (second == 0 || third == 0) {
                return NONE;
            }
            for (int x = 0; x < HOUR_COUNT; x++) {
                if ((first >> x & 1) == 0) {
                    continue;
                }
                for (int y = 0; y < HOUR_COUNT; y++) {
                    int left = third & ~(1 << x | 1 << y);
                    if (y != x && (second >> y & 1) != 0 && left != 0) {
                        return x | y << HOUR_BITS | lowestBit(left) << 2 * HOUR_BITS;
                    }
                }
            }
            return NONE;
        }
    }

    /** The rings that a week could have, and which of them are chosen. */
    private static final class Planner {
        /** More than the most rings of three in a set, so that these only part sets of like weight. */
        private static final int WORTH_OF_WEIGHT = 8;
        private static final int WEEK_SHIFT = 32;
        private static final int CHOICE_SHIFT = 16;
        private static final int LOW_BITS = (1 << CHOICE_SHIFT) - 1;

        /** The rings as rows in order: a bit for each learner, the second one, the third one or NONE. */
        private final int[] members = new int[MOST_RINGS];
        private final int[] seconds = new int[MOST_RINGS];
        private final int[] thirds = new int[MOST_RINGS];
        private final int[] worths = new int[MOST_RINGS];
        /** Where the rings of each first learner begin; they end where the next one's begin. */
        private final int[] starts = new int[MOST_LEARNERS + 1];
        private final int[] weights = new int[MOST_LEARNERS];
        /** For each set of free learners: the week it was written in, the choice and one more, the worth. */
        private long[] memo = new long[0];
        private long weekNumber;
        private int ringCount;
        private int size;

        void begin(int learners) {
            size = Math.max(0, Math.min(MOST_LEARNERS, learners));
            ringCount = 0;
            // Old notes stay in the row: the week's number tells them apart, so nothing is wiped.
            weekNumber++;
            if (memo.length < 1 << size) {
                memo = new long[1 << size];
            }
        }

        void setWeight(int learner, int weight) {
            weights[learner] = weight;
        }

        void gather(Ties ties) {
            for (int a = 0; a < size; a++) {
                starts[a] = ringCount;
                for (int b = a + 1; b < size; b++) {
                    addIfRing(ties, a, b, NONE);
                    for (int c = a + 1; c < size; c++) {
                        addIfRing(ties, a, b, c);
                    }
                }
            }
            starts[size] = ringCount;
        }

        private void addIfRing(Ties ties, int a, int b, int c) {
            if (ringCount >= MOST_RINGS || !ties.gives(a, b) || ties.ringHours(a, b, c) == NONE) {
                return;
            }
            // The other way round has the same learners and stands ahead: this one could never be taken.
            if (c != NONE && c < b && ties.ringHours(a, c, b) != NONE) {
                return;
            }
            int weight = weights[a] + weights[b];
            members[ringCount] = 1 << a | 1 << b;
            worths[ringCount] = weight * WORTH_OF_WEIGHT;
            if (c != NONE) {
                members[ringCount] |= 1 << c;
                worths[ringCount] = (weight + weights[c]) * WORTH_OF_WEIGHT - 1;
            }
            seconds[ringCount] = b;
            thirds[ringCount] = c;
            ringCount++;
        }

        void choose() {
            bestWorth((1 << size) - 1, 0);
        }

        /** The ring to take for the least of the free learners; NONE: that one stays out. */
        int choiceAt(int free) {
            if (!isKnown(free)) {
                return NONE;
            }
            int choice = ((int) memo[free] >> CHOICE_SHIFT & LOW_BITS) - 1;
            return choice >= 0 && choice < ringCount ? choice : NONE;
        }

        private boolean isKnown(int free) {
            return free >= 0 && free < memo.length && memo[free] >> WEEK_SHIFT == weekNumber;
        }

        /**
         * The greatest worth of a set of rings among the free. Rings of the least learner are tried in order and
         * none last, and only a greater worth displaces an earlier one, so of like sets the first is kept.
         */
        private int bestWorth(int free, int depth) {
            if (free <= 0 || free >= memo.length || depth >= MOST_LEARNERS) {
                return 0;
            }
            if (isKnown(free)) {
                return (int) memo[free] & LOW_BITS;
            }
            int least = Integer.numberOfTrailingZeros(free);
            if (least >= size) {
                return 0;
            }
            int weight = weightOf(free);
            // An odd number can't all be served without a ring of three: nothing beats this worth.
            int most = weight * WORTH_OF_WEIGHT - (Integer.bitCount(free) & 1);
            int best = NONE;
            int choice = NONE;
            for (int r = starts[least]; r < starts[least + 1] && best < most; r++) {
                if ((members[r] & ~free) == 0) {
                    int worth = worths[r] + bestWorth(free & ~members[r], depth + 1);
                    if (worth > best) {
                        best = worth;
                        choice = r;
                    }
                }
            }
            if (best < (weight - weights[least]) * WORTH_OF_WEIGHT) {
                int worth = bestWorth(free & free - 1, depth + 1);
                if (worth > best) {
                    best = worth;
                    choice = NONE;
                }
            }
            memo[free] = weekNumber << WEEK_SHIFT | (long) (choice + 1) << CHOICE_SHIFT | best & LOW_BITS;
            return best;
        }

        private int weightOf(int free) {
            int sum = 0;
            for (int i = 0; i < size; i++) {
                if ((free >> i & 1) != 0) {
                    sum += weights[i];
                }
            }
            return sum;
        }
    }

    /** The bytes that were fed, and the marks of the latest correction. */
    private static final class Tape {
        private static final int MOST_BYTES = 40;
        private static final int LENGTH = 2 * MOST_BYTES;
        private static final int FEED_LENGTH = 20;
        private static final int KINDS = 5;
        private static final int WIDTH = MOST_BYTES + 1;
        private static final int STAYS = 0;
        private static final int BECOMES = 1;
        private static final int SWAPS = 4;
        private static final int CANNOT = 1000000;
        private static final int[] COSTS = {0, 3, 2, 2, 2};
        /** How many bytes of what was said, and of what was meant, a mark of each kind goes along. */
        private static final int[] SAID_STEPS = {1, 1, 1, 0, 2};
        private static final int[] MEANT_STEPS = {1, 1, 0, 1, 2};

        private final int[] bytes = new int[LENGTH];
        /** The least cost of what is left behind each pair of places. */
        private final int[] costs = new int[WIDTH * WIDTH];
        private final int[] marksMade = new int[LENGTH];
        private final int[] kindCounts = new int[KINDS];
        private int length;
        private int markCount;
        private int saidLength;
        private int meantLength;

        boolean hasRoom() {
            return length + FEED_LENGTH <= LENGTH;
        }

        void append(int number) {
            for (int shift = 24; shift >= 0 && length < LENGTH; shift -= 8) {
                bytes[length] = number >>> shift & 255;
                length++;
            }
        }

        /** Corrects the first n bytes to the m behind them: the cost. n, m and their sum were looked at before. */
        int compare(int n, int m) {
            saidLength = n;
            meantLength = m;
            fillCosts();
            writeMarks();
            length = 0;
            return costs[0];
        }

        private void fillCosts() {
            for (int i = saidLength; i >= 0; i--) {
                for (int j = meantLength; j >= 0; j--) {
                    costs[i * WIDTH + j] = leastCost(i, j);
                }
            }
        }

        private int leastCost(int i, int j) {
            if (i == saidLength && j == meantLength) {
                return 0;
            }
            int least = CANNOT;
            for (int kind = 0; kind < KINDS; kind++) {
                least = Math.min(least, costBy(kind, i, j));
            }
            return least;
        }

        /** The marks are taken from the front, the least kind that loses nothing each time: the first row. */
        private void writeMarks() {
            markCount = 0;
            for (int kind = 0; kind < KINDS; kind++) {
                kindCounts[kind] = 0;
            }
            int i = 0;
            int j = 0;
            while (markCount < LENGTH && (i < saidLength || j < meantLength)) {
                int kind = firstKind(i, j);
                marksMade[markCount] = kind;
                markCount++;
                kindCounts[kind]++;
                i += SAID_STEPS[kind];
                j += MEANT_STEPS[kind];
            }
        }

        /** The least kind of mark with which a row of least cost goes on from here. */
        private int firstKind(int i, int j) {
            int least = costs[i * WIDTH + j];
            int kind = STAYS;
            while (kind < KINDS - 1 && costBy(kind, i, j) != least) {
                kind++;
            }
            return kind;
        }

        private int costBy(int kind, int i, int j) {
            int nextSaid = i + SAID_STEPS[kind];
            int nextMeant = j + MEANT_STEPS[kind];
            if (nextSaid > saidLength || nextMeant > meantLength || !fits(kind, i, saidLength + j)) {
                return CANNOT;
            }
            return COSTS[kind] + costs[nextSaid * WIDTH + nextMeant];
        }

        /** Whether the bytes at a place said and a place meant are as the kind asks; both rows go on far enough for it. */
        private boolean fits(int kind, int said, int meant) {
            switch (kind) {
                case STAYS:
                    return bytes[said] == bytes[meant];
                case BECOMES:
                    return bytes[said] != bytes[meant];
                case SWAPS:
                    return bytes[said] == bytes[meant + 1] && bytes[said + 1] == bytes[meant]
                        && bytes[said] != bytes[said + 1];
                default:
                    return true;
            }
        }
    }
}
