import java.util.NoSuchElementException;

/** A school in which hidden things are learnt by asking. */
public final class Queryschool {
    private static final int MOST_POINTS = 6;
    private static final int MOST_CONCEPTS = 24;
    private static final int MOST_ANSWERS = 40;
    private static final int MOST_BUDGET = 2;
    private static final int MOST_Z = 2147483646;
    private static final int MOST_EXPERTS = 6;
    private static final int MOST_STATES = 5;
    private static final int MOST_LETTERS = 8;
    private static final int MOST_WORDS = 12;
    private static final int MOST_TRIAL_STATES = 3;
    private static final int MOST_HINTS = 20;
    private static final int LEAST_THINGS = 2;
    private static final int MOST_THINGS = 5;

    private final Teacher teacher = new Teacher();
    private final Concepts known = teacher.known;
    private final Trees trees = new Trees();
    private final Crowd crowd = new Crowd();
    private final Machine machine = new Machine();
    private final Words words = new Words();
    private final Codes codes = new Codes();
    private final Queue queue = new Queue();

    public Queryschool() {
    }

    // ---- concepts and the teacher

    public int points(int points) throws IllegalArgumentException {
        if (points < 1 || points > MOST_POINTS) {
            throw new IllegalArgumentException("points are 1 to 6");
        }
        int before = known.count;
        known.startAnew(points);
        teacher.leave();
        return before;
    }

    public int concept(int set)
            throws IllegalArgumentException, UnsupportedOperationException, IllegalStateException {
        if (!known.isSet(set)) {
            throw new IllegalArgumentException("the set has other points");
        }
        if (teacher.given > 0 || known.numberOf(set) >= 0) {
            throw new UnsupportedOperationException("the concept is there, or answers were given");
        }
        if (known.count >= MOST_CONCEPTS) {
            throw new IllegalStateException("there are 24 concepts");
        }
        return known.add(set);
    }

    public int family(char family)
            throws IllegalArgumentException, UnsupportedOperationException, IllegalStateException {
        if (!Concepts.isFamily(family)) {
            throw new IllegalArgumentException("there is no such family");
        }
        if (teacher.given > 0) {
            throw new UnsupportedOperationException("answers were given");
        }
        if (known.count + known.missing(family) > MOST_CONCEPTS) {
            throw new IllegalStateException("there would be more than 24 concepts");
        }
        known.addAll(family);
        return known.count;
    }

    public int setOf(int concept) throws IndexOutOfBoundsException {
        if (!known.isNumber(concept)) {
            throw new IndexOutOfBoundsException("there is no such concept");
        }
        return known.setAt(concept);
    }

    public boolean teach(char kind, int concept, int budget)
            throws IllegalArgumentException, IndexOutOfBoundsException, UnsupportedOperationException {
        if (!Teacher.isKind(kind)) {
            throw new IllegalArgumentException("there is no such teacher");
        }
        if (kind == Teacher.LYING && (budget < 0 || budget > MOST_BUDGET)) {
            throw new IllegalArgumentException("the budget is 0 to 2");
        }
        if (kind != Teacher.KEEPING && !known.isNumber(concept)) {
            throw new IndexOutOfBoundsException("there is no such concept");
        }
        if (known.count == 0) {
            throw new UnsupportedOperationException("there are no concepts");
        }
        boolean wasThere = teacher.isThere();
        teacher.come(kind, concept, budget);
        return wasThere;
    }

    public int seed(int z) throws IllegalArgumentException {
        if (z < 1 || z > MOST_Z) {
            throw new IllegalArgumentException("z is 1 to 2147483646");
        }
        int before = teacher.z;
        teacher.z = z;
        return before;
    }

    public boolean ask(int point)
            throws IllegalArgumentException, UnsupportedOperationException, IllegalStateException {
        if (!known.isPoint(point)) {
            throw new IllegalArgumentException("there is no such point");
        }
        if (!teacher.isThere()) {
            throw new UnsupportedOperationException("no teacher was told");
        }
        if (teacher.given >= MOST_ANSWERS) {
            throw new IllegalStateException("40 answers were given");
        }
        return teacher.answer(point);
    }

    public int equal(int set)
            throws IllegalArgumentException, UnsupportedOperationException, IllegalStateException {
        if (!known.isSet(set)) {
            throw new IllegalArgumentException("the set has other points");
        }
        if (!teacher.isThere()) {
            throw new UnsupportedOperationException("no teacher was told");
        }
        if (teacher.given >= MOST_ANSWERS) {
            throw new IllegalStateException("40 answers were given");
        }
        return teacher.compare(set);
    }

    public int answers() {
        return teacher.given;
    }

    public int conflicts(int concept) throws IndexOutOfBoundsException {
        if (!known.isNumber(concept)) {
            throw new IndexOutOfBoundsException("there is no such concept");
        }
        return teacher.conflictsOf(concept);
    }

    public boolean isAlive(int concept) throws IndexOutOfBoundsException {
        if (!known.isNumber(concept)) {
            throw new IndexOutOfBoundsException("there is no such concept");
        }
        return teacher.isLiving(concept);
    }

    public int alive() {
        return Integer.bitCount(teacher.living());
    }

    public char sure(int point) throws IllegalArgumentException {
        if (!known.isPoint(point)) {
            throw new IllegalArgumentException("there is no such point");
        }
        return known.agreementOn(point, teacher.living());
    }

    public int best() throws NoSuchElementException {
        int living = teacher.living();
        if (Integer.bitCount(living) < 2) {
            throw new NoSuchElementException("fewer than two concepts are alive");
        }
        return known.bestQuestion(living);
    }

    public int learn() throws UnsupportedOperationException {
        if (!teacher.isThere()) {
            throw new UnsupportedOperationException("no teacher was told");
        }
        return teacher.askOn();
    }

    public int found() throws NoSuchElementException {
        int living = teacher.living();
        if (Integer.bitCount(living) != 1) {
            throw new NoSuchElementException("there is not just one concept alive");
        }
        return lowestBit(living);
    }

    // ---- dimensions

    public boolean isShattered(int set) throws IllegalArgumentException {
        if (!known.isSet(set)) {
            throw new IllegalArgumentException("the set has other points");
        }
        return known.shatters(set);
    }

    public int dimension() {
        return known.greatestShattered();
    }

    public int lesson(int concept) throws IndexOutOfBoundsException {
        if (!known.isNumber(concept)) {
            throw new IndexOutOfBoundsException("there is no such concept");
        }
        return known.leastLesson(concept);
    }

    public int depth() {
        return trees.leastDepth(known);
    }

    public int mistakes() {
        return trees.forcedMistakes(known);
    }

    public int halver(int concept) throws IndexOutOfBoundsException {
        if (!known.isNumber(concept)) {
            throw new IndexOutOfBoundsException("there is no such concept");
        }
        return known.halvingMistakes(concept);
    }

    // ---- experts

    public int experts(int many) throws IllegalArgumentException {
        if (many < 1 || many > MOST_EXPERTS) {
            throw new IllegalArgumentException("experts are 1 to 6");
        }
        int before = crowd.count;
        crowd.startAnew(many);
        return before;
    }

    public boolean round(int says, boolean isIn)
            throws IllegalArgumentException, UnsupportedOperationException {
        if (says >> crowd.count != 0) {
            throw new IllegalArgumentException("there are bits of others");
        }
        if (crowd.count == 0) {
            throw new UnsupportedOperationException("there are no experts");
        }
        return crowd.hear(says, isIn);
    }

    public int weight(int expert) throws IndexOutOfBoundsException {
        if (expert < 0 || expert >= crowd.count) {
            throw new IndexOutOfBoundsException("there is no such expert");
        }
        return crowd.weightOf(expert);
    }

    public int regret() throws UnsupportedOperationException {
        if (crowd.count == 0) {
            throw new UnsupportedOperationException("there are no experts");
        }
        return crowd.wrong - crowd.leastWrong();
    }

    // ---- machines and samples

    public int state(boolean isAccepting) throws IllegalStateException {
        if (machine.count >= MOST_STATES) {
            throw new IllegalStateException("there are 5 states");
        }
        return machine.add(isAccepting);
    }

    public int go(int state, char letter, int to)
            throws IndexOutOfBoundsException, IllegalArgumentException {
        if (!machine.isState(state) || !machine.isState(to)) {
            throw new IndexOutOfBoundsException("there is no such state");
        }
        if (letter != 'a' && letter != 'b') {
            throw new IllegalArgumentException("there is no such letter");
        }
        return machine.lead(state, letter == 'a' ? 0 : 1, to);
    }

    public boolean accepts(int length, int bits)
            throws IllegalArgumentException, UnsupportedOperationException {
        if (!isWord(length, bits)) {
            throw new IllegalArgumentException("it is no word");
        }
        if (machine.count == 0) {
            throw new UnsupportedOperationException("there is no state");
        }
        return machine.endsWell(0, length, bits);
    }

    public int apart(int state, int other) throws IndexOutOfBoundsException, NoSuchElementException {
        if (!machine.isState(state) || !machine.isState(other)) {
            throw new IndexOutOfBoundsException("there is no such state");
        }
        int length = machine.lengthApart(state, other);
        if (length < 0) {
            throw new NoSuchElementException("the states are not apart");
        }
        return length;
    }

    public int leastStates() throws UnsupportedOperationException {
        if (machine.count == 0) {
            throw new UnsupportedOperationException("there is no state");
        }
        return machine.reachedKinds();
    }

    public int sample(int length, int bits, boolean isIn)
            throws IllegalArgumentException, UnsupportedOperationException, IllegalStateException {
        if (!isWord(length, bits)) {
            throw new IllegalArgumentException("it is no word");
        }
        if (words.has(length, bits)) {
            throw new UnsupportedOperationException("the word is there");
        }
        if (words.count >= MOST_WORDS) {
            throw new IllegalStateException("there are 12 words");
        }
        return words.add(length, bits, isIn);
    }

    public boolean fits() throws UnsupportedOperationException {
        if (machine.count == 0) {
            throw new UnsupportedOperationException("there is no state");
        }
        return words.areToldBy(machine);
    }

    public int fewest() throws NoSuchElementException {
        int states = words.fewestStates();
        if (states > MOST_TRIAL_STATES) {
            throw new NoSuchElementException("it needs more than 3 states");
        }
        return states;
    }

    // ---- codes and orders

    public int secret(int code) throws IllegalArgumentException {
        if (!Codes.isCode(code)) {
            throw new IllegalArgumentException("it is no code");
        }
        int before = codes.hints;
        codes.startAnew(code);
        return before;
    }

    public int guess(int code) throws IllegalArgumentException, IllegalStateException {
        if (!Codes.isCode(code)) {
            throw new IllegalArgumentException("it is no code");
        }
        if (codes.hints >= MOST_HINTS) {
            throw new IllegalStateException("20 hints were given");
        }
        return codes.giveHint(code);
    }

    public int possible() {
        return Long.bitCount(codes.left);
    }

    public int nextCode() {
        return codes.leastLeft();
    }

    public int things(int many) throws IllegalArgumentException {
        if (many < LEAST_THINGS || many > MOST_THINGS) {
            throw new IllegalArgumentException("things are 2 to 5");
        }
        int before = queue.count;
        queue.startAnew(many);
        return before;
    }

    public int ahead(int one, int other) throws IllegalArgumentException, UnsupportedOperationException {
        if (!queue.isThing(one) || !queue.isThing(other) || one == other) {
            throw new IllegalArgumentException("there is no such thing, or both are the same");
        }
        int left = queue.ways(one, other);
        if (left == 0) {
            throw new UnsupportedOperationException("no order would be left");
        }
        queue.line(one, other);
        return left;
    }

    public int orders() {
        return queue.allWays();
    }

    public int pair() throws NoSuchElementException {
        if (queue.allWays() == 1) {
            throw new NoSuchElementException("there is one order alone");
        }
        return queue.bestPair();
    }

    // ---- sums

    public long checksum() {
        long sum = 7;
        for (int concept = 0; concept < known.count; concept++) {
            sum = 31 * sum + known.setAt(concept);
            sum = 31 * sum + teacher.conflictsOf(concept);
        }
        for (int expert = 0; expert < crowd.count; expert++) {
            sum = 31 * sum + crowd.weightOf(expert);
        }
        sum = 31 * sum + Long.bitCount(codes.left);
        return 31 * sum + queue.allWays();
    }

    public float aliveShare() throws NoSuchElementException {
        if (known.count == 0) {
            throw new NoSuchElementException("there are no concepts");
        }
        return (float) Integer.bitCount(teacher.living()) / (float) known.count;
    }

    public double meanLesson() throws NoSuchElementException {
        if (known.count == 0) {
            throw new NoSuchElementException("there are no concepts");
        }
        return (double) known.lessonSum() / (double) known.count;
    }

    public boolean isSound() {
        return trees.areOrdered(known) && teacher.isHonoured() && codes.isLeft(codes.hidden);
    }

    // ---- helpers

    // Rows are read and written by these two alone, so that no index goes unlooked at.
    private static int at(int[] row, int index) {
        return index >= 0 && index < row.length ? row[index] : 0;
    }

    private static void put(int[] row, int index, int value) {
        if (index >= 0 && index < row.length) {
            row[index] = value;
        }
    }

    private static boolean hasBit(int bits, int bit) {
        return (bits >> bit & 1) != 0;
    }

    private static int lowestBit(int bits) {
        for (int bit = 0; bit < 32; bit++) {
            if (hasBit(bits, bit)) {
                return bit;
            }
        }
        return -1;
    }

    private static boolean isWord(int length, int bits) {
        return length >= 0 && length <= MOST_LETTERS && bits >> length == 0;
    }

    /** The points and the concepts over them. A group is some of the concepts, as bits. */
    private static final class Concepts {
        private final int[] sets = new int[MOST_CONCEPTS];
        private final int[] holders = new int[MOST_POINTS];
        private int points = 4;
        private int count;

        void startAnew(int many) {
            points = many;
            count = 0;
            for (int point = 0; point < MOST_POINTS; point++) {
                put(holders, point, 0);
            }
        }

        boolean isPoint(int point) {
            return point >= 0 && point < points;
        }

        boolean isSet(int set) {
            return set >> points == 0;
        }

        boolean isNumber(int concept) {
            return concept >= 0 && concept < count;
        }

        int setAt(int concept) {
            return at(sets, concept);
        }

        int numberOf(int set) {
            for (int concept = 0; concept < count; concept++) {
                if (setAt(concept) == set) {
                    return concept;
                }
            }
            return -1;
        }

        int add(int set) {
            int number = count;
            put(sets, number, set);
            for (int point = 0; point < points; point++) {
                if (hasBit(set, point)) {
                    put(holders, point, at(holders, point) | 1 << number);
                }
            }
            count++;
            return number;
        }

        int everyone() {
            return (1 << count) - 1;
        }

        int holding(int point) {
            return at(holders, point);
        }

        int lacking(int point) {
            return everyone() & ~at(holders, point);
        }

        int agreeing(int set, int point) {
            return hasBit(set, point) ? holding(point) : lacking(point);
        }

        static boolean isFamily(char family) {
            return family == 't' || family == 's' || family == 'i' || family == 'p';
        }

        // Adding the lowest bit of a set carries through its first run of points:
        // what is left of the set then lies behind a gap.
        static boolean isOf(char family, int set) {
            if (family == 't') {
                return (set & (set + 1)) == 0;
            }
            if (family == 's') {
                return (set & (set - 1)) == 0;
            }
            if (family == 'i') {
                return (set & (set + (set & -set))) == 0;
            }
            return Integer.bitCount(set) % 2 == 0;
        }

        int missing(char family) {
            int missing = 0;
            for (int set = 0; set < 1 << points; set++) {
                if (isOf(family, set) && numberOf(set) < 0) {
                    missing++;
                }
            }
            return missing;
        }

        void addAll(char family) {
            for (int set = 0; set < 1 << points; set++) {
                if (isOf(family, set) && numberOf(set) < 0) {
                    add(set);
                }
            }
        }

        char agreementOn(int point, int group) {
            int within = group & holding(point);
            if (group == 0 || within != 0 && within != group) {
                return '?';
            }
            return within == group ? '+' : '-';
        }

        int bestQuestion(int group) {
            int most = -1;
            int best = 0;
            for (int point = 0; point < points; point++) {
                int less = Math.min(Integer.bitCount(group & holding(point)),
                        Integer.bitCount(group & lacking(point)));
                if (less > most) {
                    most = less;
                    best = point;
                }
            }
            return best;
        }

        boolean isMostlyIn(int point, int group) {
            return Integer.bitCount(group & holding(point)) >= Integer.bitCount(group & lacking(point));
        }

        // A part of a set of points is itself a number below 64, so one long tells which were seen.
        boolean shatters(int set) {
            long parts = 0;
            for (int concept = 0; concept < count; concept++) {
                parts |= 1L << (setAt(concept) & set);
            }
            return Long.bitCount(parts) == 1 << Integer.bitCount(set);
        }

        int greatestShattered() {
            int greatest = -1;
            for (int set = 0; set < 1 << points; set++) {
                if (Integer.bitCount(set) > greatest && shatters(set)) {
                    greatest = Integer.bitCount(set);
                }
            }
            return greatest;
        }

        int leastLesson(int concept) {
            int least = points;
            for (int set = 0; set < 1 << points; set++) {
                if (Integer.bitCount(set) < least && isLesson(set, concept)) {
                    least = Integer.bitCount(set);
                }
            }
            return least;
        }

        private boolean isLesson(int set, int concept) {
            int own = setAt(concept);
            for (int other = 0; other < count; other++) {
                if (other != concept && ((own ^ setAt(other)) & set) == 0) {
                    return false;
                }
            }
            return true;
        }

        int lessonSum() {
            int sum = 0;
            for (int concept = 0; concept < count; concept++) {
                sum += leastLesson(concept);
            }
            return sum;
        }

        int halvingMistakes(int concept) {
            int own = setAt(concept);
            int group = everyone();
            int wrong = 0;
            for (int point = 0; point < points; point++) {
                if (isMostlyIn(point, group) != hasBit(own, point)) {
                    wrong++;
                }
                group &= agreeing(own, point);
            }
            return wrong;
        }
    }

    /** The one who answers, and what the answers leave of the concepts. */
    private static final class Teacher {
        private static final char NOBODY = '-';
        private static final char HONEST = 'h';
        private static final char LYING = 'l';
        private static final char KEEPING = 'a';
        private static final int BURIED = -1;

        private final Concepts known = new Concepts();
        private final int[] conflicts = new int[MOST_CONCEPTS];
        private char kind = NOBODY;
        private int hidden;
        private int budget;
        private int lies;
        private int given;
        private int z = 1;

        static boolean isKind(char kind) {
            return kind == HONEST || kind == LYING || kind == KEEPING;
        }

        boolean isThere() {
            return kind != NOBODY;
        }

        void leave() {
            come(NOBODY, 0, 0);
        }

        void come(char newKind, int concept, int newBudget) {
            kind = newKind;
            hidden = concept;
            budget = newKind == LYING ? newBudget : 0;
            lies = 0;
            given = 0;
            for (int each = 0; each < MOST_CONCEPTS; each++) {
                put(conflicts, each, 0);
            }
        }

        int conflictsOf(int concept) {
            return at(conflicts, concept);
        }

        boolean isLiving(int concept) {
            return conflictsOf(concept) != BURIED && conflictsOf(concept) <= budget;
        }

        int living() {
            int living = 0;
            for (int concept = 0; concept < known.count; concept++) {
                if (isLiving(concept)) {
                    living |= 1 << concept;
                }
            }
            return living;
        }

        boolean isHonoured() {
            return kind == NOBODY || kind == KEEPING || isLiving(hidden);
        }

        int askOn() {
            int before = given;
            for (int asked = before; asked < MOST_ANSWERS && Integer.bitCount(living()) > 1; asked++) {
                answer(known.bestQuestion(living()));
            }
            return given - before;
        }

        boolean answer(int point) {
            boolean isIn = kind == KEEPING
                    ? known.isMostlyIn(point, living())
                    : hasHidden(point) != drawsLie();
            noteAgainst(isIn ? known.lacking(point) : known.holding(point));
            given++;
            return isIn;
        }

        private boolean hasHidden(int point) {
            return hasBit(known.setAt(hidden), point);
        }

        private boolean drawsLie() {
            if (kind != LYING || lies >= budget) {
                return false;
            }
            z = (int) (z * 48271L % 2147483647L);
            if (z % 3 != 0) {
                return false;
            }
            lies++;
            return true;
        }

        private void noteAgainst(int group) {
            for (int concept = 0; concept < known.count; concept++) {
                int before = conflictsOf(concept);
                if (hasBit(group, concept) && before != BURIED) {
                    put(conflicts, concept, before + 1);
                }
            }
        }

        private void bury(int group) {
            for (int concept = 0; concept < known.count; concept++) {
                if (hasBit(group, concept)) {
                    put(conflicts, concept, BURIED);
                }
            }
        }

        int compare(int set) {
            int counter = kind == KEEPING ? keepingCounter(set) : lowestBit(set ^ known.setAt(hidden));
            bury(counter < 0 ? others(set) : known.agreeing(set, counter));
            given++;
            return counter;
        }

        private int others(int set) {
            int number = known.numberOf(set);
            return number < 0 ? known.everyone() : known.everyone() & ~(1 << number);
        }

        // No point is a counter if every living concept is the set itself.
        private int keepingCounter(int set) {
            int living = living();
            int most = 0;
            int counter = -1;
            for (int point = 0; point < known.points; point++) {
                int differing = Integer.bitCount(living & ~known.agreeing(set, point));
                if (differing > most) {
                    most = differing;
                    counter = point;
                }
            }
            return counter;
        }
    }

    /**
     * All that may come of questions. A case is what was told of each point, a digit each by rising
     * powers of three: 0 nothing, 1 that it is in, 2 that it is out.
     */
    private static final class Trees {
        private static final int CASES = 729;

        private final int[] groups = new int[CASES];
        private final int[] worths = new int[CASES];
        private int points;

        boolean areOrdered(Concepts known) {
            if (known.count < 2) {
                return true;
            }
            int forced = forcedMistakes(known);
            return known.greatestShattered() <= forced && forced <= leastDepth(known);
        }

        int leastDepth(Concepts known) {
            return worthOfAll(known, false);
        }

        int forcedMistakes(Concepts known) {
            return worthOfAll(known, true);
        }

        private int worthOfAll(Concepts known, boolean isContrary) {
            for (int each = fillGroups(known) - 1; each >= 0; each--) {
                put(worths, each, isSettled(each) ? 0 : worthFrom(each, isContrary));
            }
            return at(worths, 0);
        }

        // Each point triples the cases; a case's later ones have greater numbers.
        private int fillGroups(Concepts known) {
            int cases = 1;
            points = known.points;
            put(groups, 0, known.everyone());
            for (int point = 0; point < points; point++) {
                for (int each = 0; each < cases; each++) {
                    put(groups, each + cases, at(groups, each) & known.holding(point));
                    put(groups, each + 2 * cases, at(groups, each) & known.lacking(point));
                }
                cases *= 3;
            }
            return cases;
        }

        private boolean isSettled(int each) {
            return Integer.bitCount(at(groups, each)) < 2;
        }

        private boolean splits(int in, int out) {
            return at(groups, in) != 0 && at(groups, out) != 0;
        }

        // All points together always tell unlike concepts apart: no depth is greater than they are many.
        private int worthFrom(int each, boolean isContrary) {
            int worth = isContrary ? 0 : points;
            int told = each;
            int power = 1;
            for (int point = 0; point < points; point++) {
                int in = each + power;
                int out = in + power;
                if (told % 3 == 0 && splits(in, out)) {
                    int less = Math.min(at(worths, in), at(worths, out));
                    int more = Math.max(at(worths, in), at(worths, out));
                    worth = isContrary ? Math.max(worth, 1 + less) : Math.min(worth, 1 + more);
                }
                told /= 3;
                power *= 3;
            }
            return worth;
        }
    }

    /** The experts, and the crowd that they are. */
    private static final class Crowd {
        private static final int FIRST_WEIGHT = 1024;

        private final int[] weights = new int[MOST_EXPERTS];
        private final int[] wrongs = new int[MOST_EXPERTS];
        private int count;
        private int wrong;

        void startAnew(int many) {
            count = many;
            wrong = 0;
            for (int expert = 0; expert < many; expert++) {
                put(weights, expert, FIRST_WEIGHT);
                put(wrongs, expert, 0);
            }
        }

        int weightOf(int expert) {
            return at(weights, expert);
        }

        int leastWrong() {
            int least = at(wrongs, 0);
            for (int expert = 1; expert < count; expert++) {
                least = Math.min(least, at(wrongs, expert));
            }
            return least;
        }

        boolean hear(int says, boolean isIn) {
            boolean saysIn = lead(says) >= 0;
            if (saysIn != isIn) {
                wrong++;
            }
            for (int expert = 0; expert < count; expert++) {
                if (hasBit(says, expert) != isIn) {
                    put(weights, expert, Math.max(1, weightOf(expert) / 2));
                    put(wrongs, expert, at(wrongs, expert) + 1);
                }
            }
            return saysIn;
        }

        private int lead(int says) {
            int lead = 0;
            for (int expert = 0; expert < count; expert++) {
                lead += hasBit(says, expert) ? weightOf(expert) : -weightOf(expert);
            }
            return lead;
        }
    }

    /** The machine. A row of moves has two for each state: by the letter 'a', then by 'b'. */
    private static final class Machine {
        private final int[] moves = new int[2 * MOST_STATES];
        private int accepting;
        private int count;

        boolean isState(int state) {
            return state >= 0 && state < count;
        }

        int add(boolean isAccepting) {
            int number = count;
            put(moves, 2 * number, number);
            put(moves, 2 * number + 1, number);
            if (isAccepting) {
                accepting |= 1 << number;
            }
            count++;
            return number;
        }

        int lead(int state, int letter, int to) {
            int before = at(moves, 2 * state + letter);
            put(moves, 2 * state + letter, to);
            return before;
        }

        static int end(int[] row, int start, int length, int bits) {
            int state = start;
            for (int letter = 0; letter < length; letter++) {
                state = at(row, 2 * state + (bits >> letter & 1));
            }
            return state;
        }

        boolean endsWell(int start, int length, int bits) {
            return hasBit(accepting, end(moves, start, length, bits));
        }

        // Each letter more must tell some states apart that were not so before, or it never helps:
        // words shorter than the states are many will do.
        int lengthApart(int state, int other) {
            for (int length = 0; length < count; length++) {
                for (int bits = 0; bits < 1 << length; bits++) {
                    if (endsWell(state, length, bits) != endsWell(other, length, bits)) {
                        return length;
                    }
                }
            }
            return -1;
        }

        int reachedKinds() {
            int reached = reached();
            int kinds = 0;
            for (int state = 0; state < count; state++) {
                if (hasBit(reached, state) && isFirstOfKind(state, reached)) {
                    kinds++;
                }
            }
            return kinds;
        }

        private int reached() {
            int reached = 1;
            for (int step = 1; step < count; step++) {
                for (int state = 0; state < count; state++) {
                    if (hasBit(reached, state)) {
                        reached |= 1 << at(moves, 2 * state) | 1 << at(moves, 2 * state + 1);
                    }
                }
            }
            return reached;
        }

        private boolean isFirstOfKind(int state, int reached) {
            for (int lower = 0; lower < state; lower++) {
                if (hasBit(reached, lower) && lengthApart(lower, state) < 0) {
                    return false;
                }
            }
            return true;
        }
    }

    /** The sample, and the first trial machine that it fits. */
    private static final class Words {
        private static final int TRIALS = 1 + 16 + 729;

        private final int[] lengths = new int[MOST_WORDS];
        private final int[] letters = new int[MOST_WORDS];
        private final int[] trial = new int[2 * MOST_TRIAL_STATES];
        private int trialStates = 1;
        private int within;
        private int count;

        boolean has(int length, int bits) {
            for (int word = 0; word < count; word++) {
                if (at(lengths, word) == length && at(letters, word) == bits) {
                    return true;
                }
            }
            return false;
        }

        int add(int length, int bits, boolean isIn) {
            put(lengths, count, length);
            put(letters, count, bits);
            if (isIn) {
                within |= 1 << count;
            }
            count++;
            return count;
        }

        boolean areToldBy(Machine machine) {
            for (int word = 0; word < count; word++) {
                if (machine.endsWell(0, at(lengths, word), at(letters, word)) != hasBit(within, word)) {
                    return false;
                }
            }
            return true;
        }

        // Words are never taken back, so what a trial machine once failed it fails for ever:
        // the search goes on where it stood.
        int fewestStates() {
            for (int tried = 0; tried < TRIALS && trialStates <= MOST_TRIAL_STATES; tried++) {
                if (areKeptApart()) {
                    return trialStates;
                }
                turnTrial();
            }
            return trialStates;
        }

        // States may be made accepting at will, unless words in and words out end at the same one.
        private boolean areKeptApart() {
            int ends = 0;
            int otherEnds = 0;
            for (int word = 0; word < count; word++) {
                int end = Machine.end(trial, 0, at(lengths, word), at(letters, word));
                if (hasBit(within, word)) {
                    ends |= 1 << end;
                } else {
                    otherEnds |= 1 << end;
                }
                if ((ends & otherEnds) != 0) {
                    return false;
                }
            }
            return true;
        }

        private void turnTrial() {
            for (int move = 0; move < 2 * trialStates; move++) {
                int next = at(trial, move) + 1;
                if (next < trialStates) {
                    put(trial, move, next);
                    return;
                }
                put(trial, move, 0);
            }
            trialStates++;
        }
    }

    /** The secret and its hints. A code is held as a number of three digits to the base 4. */
    private static final class Codes {
        private static final int CODES = 64;
        private static final int PLACES = 3;
        private static final int DIGITS = 4;

        private int hidden;
        private int hints;
        private long left = -1L;

        static boolean isCode(int code) {
            return code >= 0 && code <= 333 && code / 10 % 10 < DIGITS && code % 10 < DIGITS;
        }

        private static int packed(int code) {
            return code / 100 << 4 | code / 10 % 10 << 2 | code % 10;
        }

        private static int digit(int packed, int place) {
            return packed >> 2 * place & 3;
        }

        void startAnew(int code) {
            hidden = packed(code);
            hints = 0;
            left = -1L;
        }

        boolean isLeft(int packed) {
            return (left >> packed & 1L) != 0;
        }

        int leastLeft() {
            for (int packed = 0; packed < CODES; packed++) {
                if (isLeft(packed)) {
                    return 100 * digit(packed, 2) + 10 * digit(packed, 1) + digit(packed, 0);
                }
            }
            return 0;
        }

        int giveHint(int code) {
            int guess = packed(code);
            int hint = hint(hidden, guess);
            for (int packed = 0; packed < CODES; packed++) {
                if (hint(packed, guess) != hint) {
                    left &= ~(1L << packed);
                }
            }
            hints++;
            return hint;
        }

        // What is right at its place is right at some place, too: nine more make its ten.
        private static int hint(int packed, int guess) {
            int hint = 0;
            for (int place = 0; place < PLACES; place++) {
                if (digit(packed, place) == digit(guess, place)) {
                    hint += 9;
                }
            }
            for (int digit = 0; digit < DIGITS; digit++) {
                hint += Math.min(times(packed, digit), times(guess, digit));
            }
            return hint;
        }

        private static int times(int packed, int digit) {
            int times = 0;
            for (int place = 0; place < PLACES; place++) {
                if (digit(packed, place) == digit) {
                    times++;
                }
            }
            return times;
        }
    }

    /** The things, and which of them were told to be ahead of each one, as bits. */
    private static final class Queue {
        private final int[] firsts = new int[MOST_THINGS];
        private final int[] beginnings = new int[1 << MOST_THINGS];
        private int count = 3;

        void startAnew(int many) {
            count = many;
            for (int thing = 0; thing < MOST_THINGS; thing++) {
                put(firsts, thing, 0);
            }
        }

        boolean isThing(int thing) {
            return thing >= 0 && thing < count;
        }

        void line(int one, int other) {
            put(firsts, other, at(firsts, other) | 1 << one);
        }

        int ways(int one, int other) {
            int before = at(firsts, other);
            line(one, other);
            int ways = allWays();
            put(firsts, other, before);
            return ways;
        }

        int allWays() {
            put(beginnings, 0, 1);
            for (int placed = 1; placed < 1 << count; placed++) {
                put(beginnings, placed, waysToPlace(placed));
            }
            return at(beginnings, (1 << count) - 1);
        }

        private int waysToPlace(int placed) {
            int ways = 0;
            for (int last = 0; last < count; last++) {
                int others = placed & ~(1 << last);
                if (others != placed && (at(firsts, last) & ~others) == 0) {
                    ways += at(beginnings, others);
                }
            }
            return ways;
        }

        int bestPair() {
            int all = allWays();
            int most = -1;
            int best = 0;
            for (int one = 0; one < count; one++) {
                for (int other = one + 1; other < count; other++) {
                    int ways = ways(one, other);
                    int less = Math.min(ways, all - ways);
                    if (less > most) {
                        most = less;
                        best = 10 * one + other;
                    }
                }
            }
            return best;
        }
    }
}
