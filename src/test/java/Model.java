import java.util.ArrayList;
import java.util.Arrays;
import java.util.HashMap;
import java.util.List;
import java.util.Map;
import java.util.NoSuchElementException;

/**
 * The document told once more, by lists and by trying all there is, to hold the program against.
 * It is slow on purpose and shares no code with the program.
 */
final class Model {
    private int points = 4;
    private final List<Integer> sets = new ArrayList<>();
    private final List<Integer> conflicts = new ArrayList<>();
    private boolean taught = false;
    private char kind;
    private int hidden;
    private int budget = 0;
    private int lies;
    private int answers = 0;
    private long z = 1;

    private final List<Integer> weights = new ArrayList<>();
    private final List<Integer> errors = new ArrayList<>();
    private int crowdErrors;

    private final List<Boolean> accepting = new ArrayList<>();
    private final List<int[]> goes = new ArrayList<>();
    private final List<String> words = new ArrayList<>();
    private final List<Boolean> inside = new ArrayList<>();

    private int secret = 0;
    private final List<Integer> guesses = new ArrayList<>();
    private int things = 3;
    private final List<int[]> told = new ArrayList<>();

    // ---- concepts and the teacher

    int points(int many) {
        argument(many >= 1 && many <= 6);
        int before = sets.size();
        points = many;
        sets.clear();
        conflicts.clear();
        taught = false;
        budget = 0;
        answers = 0;
        return before;
    }

    private boolean isSet(int set) {
        return set >= 0 && set < (int) Math.pow(2, points);
    }

    private boolean isPoint(int point) {
        return 0 <= point && point < points;
    }

    int concept(int set) {
        argument(isSet(set));
        supported(!sets.contains(set) && answers == 0);
        legal(sets.size() < 24);
        sets.add(set);
        conflicts.add(0);
        return sets.size() - 1;
    }

    private List<Integer> familySets(char family) {
        List<Integer> all = new ArrayList<>();
        for (int set = 0; set < 64 && isSet(set); set++) {
            String signs = "";
            for (int point = 0; point < points; point++) {
                signs += has(set, point) ? "1" : "0";
            }
            boolean fits = false;
            switch (family) {
                case 't': fits = signs.matches("1*0*"); break;
                case 's': fits = signs.matches("0*1?0*"); break;
                case 'i': fits = signs.matches("0*1*0*"); break;
                default: fits = signs.replace("0", "").length() % 2 == 0; break;
            }
            if (fits) {
                all.add(set);
            }
        }
        return all;
    }

    int family(char family) {
        argument("tsip".indexOf(family) >= 0);
        supported(answers == 0);
        List<Integer> added = familySets(family);
        added.removeAll(sets);
        legal(sets.size() + added.size() <= 24);
        for (int set : added) {
            sets.add(set);
            conflicts.add(0);
        }
        return sets.size();
    }

    int setOf(int concept) {
        index(concept, sets.size());
        return sets.get(concept);
    }

    boolean teach(char newKind, int concept, int newBudget) {
        argument("hla".indexOf(newKind) >= 0);
        argument(newKind != 'l' || newBudget >= 0 && newBudget <= 2);
        if (newKind != 'a') {
            index(concept, sets.size());
        }
        supported(!sets.isEmpty());
        boolean before = taught;
        taught = true;
        kind = newKind;
        hidden = concept;
        budget = newKind == 'l' ? newBudget : 0;
        lies = 0;
        answers = 0;
        for (int c = 0; c < sets.size(); c++) {
            conflicts.set(c, 0);
        }
        return before;
    }

    int seed(int newZ) {
        argument(newZ >= 1 && newZ <= 2147483646);
        int before = (int) z;
        z = newZ;
        return before;
    }

    private static boolean has(int set, int point) {
        return set / (int) Math.pow(2, point) % 2 == 1;
    }

    private List<Integer> living() {
        List<Integer> living = new ArrayList<>();
        for (int c = 0; c < sets.size(); c++) {
            if (conflicts.get(c) >= 0 && conflicts.get(c) <= budget) {
                living.add(c);
            }
        }
        return living;
    }

    private int countIn(List<Integer> group, int point) {
        int in = 0;
        for (int c : group) {
            in += has(sets.get(c), point) ? 1 : 0;
        }
        return in;
    }

    boolean ask(int point) {
        argument(isPoint(point));
        supported(taught);
        legal(answers < 40);
        boolean answer;
        if (kind == 'a') {
            int in = countIn(living(), point);
            answer = in >= living().size() - in;
        } else {
            answer = has(sets.get(hidden), point);
            if (kind == 'l' && lies < budget) {
                z = z * 48271 % 2147483647;
                if (z % 3 == 0) {
                    lies++;
                    answer = !answer;
                }
            }
        }
        for (int c = 0; c < sets.size(); c++) {
            if (has(sets.get(c), point) != answer && conflicts.get(c) >= 0) {
                conflicts.set(c, conflicts.get(c) + 1);
            }
        }
        answers++;
        return answer;
    }

    int equal(int set) {
        argument(isSet(set));
        supported(taught);
        legal(answers < 40);
        answers++;
        int counter = -1;
        if (kind == 'a') {
            int most = 0;
            for (int point = points - 1; point >= 0; point--) {
                int in = countIn(living(), point);
                int differ = has(set, point) ? living().size() - in : in;
                if (differ > 0 && differ >= most) {
                    most = differ;
                    counter = point;
                }
            }
        } else {
            for (int point = points - 1; point >= 0; point--) {
                if (has(set, point) != has(sets.get(hidden), point)) {
                    counter = point;
                }
            }
        }
        for (int c = 0; c < sets.size(); c++) {
            boolean dies = counter < 0
                    ? sets.get(c) != set
                    : has(sets.get(c), counter) == has(set, counter);
            if (dies) {
                conflicts.set(c, -1);
            }
        }
        return counter;
    }

    int answers() {
        return answers;
    }

    int conflicts(int concept) {
        index(concept, sets.size());
        return conflicts.get(concept);
    }

    boolean isAlive(int concept) {
        index(concept, sets.size());
        return living().contains(concept);
    }

    int alive() {
        return living().size();
    }

    char sure(int point) {
        argument(isPoint(point));
        int in = countIn(living(), point);
        if (living().isEmpty()) {
            return '?';
        }
        return in == living().size() ? '+' : in == 0 ? '-' : '?';
    }

    int best() {
        element(living().size() >= 2);
        int best = 0;
        for (int point = 1; point < points; point++) {
            if (less(point) > less(best)) {
                best = point;
            }
        }
        return best;
    }

    private int less(int point) {
        int in = countIn(living(), point);
        return Math.min(in, living().size() - in);
    }

    int learn() {
        supported(taught);
        int asked = 0;
        while (living().size() >= 2 && answers < 40) {
            ask(best());
            asked++;
        }
        return asked;
    }

    int found() {
        element(living().size() == 1);
        return living().get(0);
    }

    // ---- dimensions

    boolean isShattered(int set) {
        argument(isSet(set));
        for (int part = 0; part <= set; part++) {
            if ((part & set) == part) {
                boolean isHad = false;
                for (int c : sets) {
                    isHad |= (c & set) == part;
                }
                if (!isHad) {
                    return false;
                }
            }
        }
        return true;
    }

    int dimension() {
        int dimension = -1;
        for (int set = 0; isSet(set); set++) {
            if (isShattered(set)) {
                dimension = Math.max(dimension, size(set));
            }
        }
        return dimension;
    }

    private static int size(int set) {
        return Integer.toBinaryString(set).replace("0", "").length();
    }

    int lesson(int concept) {
        index(concept, sets.size());
        int least = 99;
        for (int set = 0; isSet(set); set++) {
            boolean tells = true;
            for (int c = 0; c < sets.size(); c++) {
                tells &= c == concept || (sets.get(c) & set) != (sets.get(concept) & set);
            }
            if (tells) {
                least = Math.min(least, size(set));
            }
        }
        return least;
    }

    private List<Integer> part(List<Integer> group, int point, boolean isIn) {
        List<Integer> part = new ArrayList<>();
        for (int set : group) {
            if (has(set, point) == isIn) {
                part.add(set);
            }
        }
        return part;
    }

    int depth() {
        return depth(sets, new HashMap<>());
    }

    private int depth(List<Integer> group, Map<List<Integer>, Integer> seen) {
        if (group.size() < 2) {
            return 0;
        }
        if (!seen.containsKey(group)) {
            int least = 99;
            for (int point = 0; point < points; point++) {
                List<Integer> in = part(group, point, true);
                List<Integer> out = part(group, point, false);
                if (!in.isEmpty() && !out.isEmpty()) {
                    least = Math.min(least, 1 + Math.max(depth(in, seen), depth(out, seen)));
                }
            }
            seen.put(group, least);
        }
        return seen.get(group);
    }

    int mistakes() {
        return mistakes(sets, new HashMap<>());
    }

    private int mistakes(List<Integer> group, Map<List<Integer>, Integer> seen) {
        if (group.size() < 2) {
            return 0;
        }
        if (!seen.containsKey(group)) {
            int most = 0;
            for (int point = 0; point < points; point++) {
                List<Integer> in = part(group, point, true);
                List<Integer> out = part(group, point, false);
                if (!in.isEmpty() && !out.isEmpty()) {
                    most = Math.max(most, 1 + Math.min(mistakes(in, seen), mistakes(out, seen)));
                }
            }
            seen.put(group, most);
        }
        return seen.get(group);
    }

    int halver(int concept) {
        index(concept, sets.size());
        List<Integer> group = sets;
        int wrong = 0;
        for (int point = 0; point < points; point++) {
            boolean truth = has(sets.get(concept), point);
            boolean says = part(group, point, true).size() >= part(group, point, false).size();
            wrong += says == truth ? 0 : 1;
            group = part(group, point, truth);
        }
        return wrong;
    }

    // ---- experts

    int experts(int many) {
        argument(many >= 1 && many <= 6);
        int before = weights.size();
        weights.clear();
        errors.clear();
        crowdErrors = 0;
        for (int e = 0; e < many; e++) {
            weights.add(1024);
            errors.add(0);
        }
        return before;
    }

    boolean round(int says, boolean isIn) {
        argument(says >= 0 && says < Math.pow(2, weights.size()));
        supported(!weights.isEmpty());
        int in = 0;
        int out = 0;
        for (int e = 0; e < weights.size(); e++) {
            if (has(says, e)) {
                in += weights.get(e);
            } else {
                out += weights.get(e);
            }
        }
        for (int e = 0; e < weights.size(); e++) {
            if (has(says, e) != isIn) {
                weights.set(e, weights.get(e) == 1 ? 1 : weights.get(e) / 2);
                errors.set(e, errors.get(e) + 1);
            }
        }
        boolean crowd = in >= out;
        crowdErrors += crowd == isIn ? 0 : 1;
        return crowd;
    }

    int weight(int expert) {
        index(expert, weights.size());
        return weights.get(expert);
    }

    int regret() {
        supported(!weights.isEmpty());
        int least = Integer.MAX_VALUE;
        for (int e : errors) {
            least = Math.min(least, e);
        }
        return crowdErrors - least;
    }

    // ---- machines and samples

    int state(boolean isAccepting) {
        legal(accepting.size() < 5);
        accepting.add(isAccepting);
        goes.add(new int[] {goes.size(), goes.size()});
        return goes.size() - 1;
    }

    int go(int state, char letter, int to) {
        index(state, goes.size());
        index(to, goes.size());
        argument(letter == 'a' || letter == 'b');
        int before = goes.get(state)[letter - 'a'];
        goes.get(state)[letter - 'a'] = to;
        return before;
    }

    /** The word by its letters, or null if it is none. */
    private static String word(int length, int bits) {
        if (length < 0 || length > 8 || bits < 0 || bits >= (int) Math.pow(2, length)) {
            return null;
        }
        String word = "";
        for (int i = 0; i < length; i++) {
            word += has(bits, i) ? "b" : "a";
        }
        return word;
    }

    private int after(int state, String word) {
        int at = state;
        for (char letter : word.toCharArray()) {
            at = goes.get(at)[letter - 'a'];
        }
        return at;
    }

    boolean accepts(int length, int bits) {
        String word = word(length, bits);
        argument(word != null);
        supported(!goes.isEmpty());
        return accepting.get(after(0, word));
    }

    private int shortest(int state, int other) {
        for (int length = 0; length <= 8; length++) {
            for (int bits = 0; bits < Math.pow(2, length); bits++) {
                String word = word(length, bits);
                if (accepting.get(after(state, word)) != accepting.get(after(other, word))) {
                    return length;
                }
            }
        }
        return -1;
    }

    int apart(int state, int other) {
        index(state, goes.size());
        index(other, goes.size());
        int length = shortest(state, other);
        element(length >= 0);
        return length;
    }

    int leastStates() {
        supported(!goes.isEmpty());
        List<Integer> kinds = new ArrayList<>();
        for (int length = 0; length <= 5; length++) {
            for (int bits = 0; bits < Math.pow(2, length); bits++) {
                int reached = after(0, word(length, bits));
                boolean isNew = true;
                for (int kind : kinds) {
                    isNew &= shortest(kind, reached) >= 0;
                }
                if (isNew) {
                    kinds.add(reached);
                }
            }
        }
        return kinds.size();
    }

    int sample(int length, int bits, boolean isIn) {
        String word = word(length, bits);
        argument(word != null);
        supported(!words.contains(word));
        legal(words.size() < 12);
        words.add(word);
        inside.add(isIn);
        return words.size();
    }

    boolean fits() {
        supported(!goes.isEmpty());
        for (int w = 0; w < words.size(); w++) {
            if (accepting.get(after(0, words.get(w))) != inside.get(w)) {
                return false;
            }
        }
        return true;
    }

    int fewest() {
        for (int states = 1; states <= 3; states++) {
            if (isToldBySome(states, new int[2 * states], 0)) {
                return states;
            }
        }
        throw new NoSuchElementException();
    }

    private boolean isToldBySome(int states, int[] moves, int from) {
        if (from < moves.length) {
            for (int to = 0; to < states; to++) {
                moves[from] = to;
                if (isToldBySome(states, moves, from + 1)) {
                    return true;
                }
            }
            return false;
        }
        Boolean[] accepts = new Boolean[states];
        for (int w = 0; w < words.size(); w++) {
            int at = 0;
            for (char letter : words.get(w).toCharArray()) {
                at = moves[2 * at + (letter - 'a')];
            }
            if (accepts[at] != null && accepts[at] != inside.get(w)) {
                return false;
            }
            accepts[at] = inside.get(w);
        }
        return true;
    }

    // ---- codes and orders

    private static boolean isCode(int code) {
        return code >= 0 && code < 1000 && digits(code)[0] < 4 && digits(code)[1] < 4 && digits(code)[2] < 4;
    }

    private static int[] digits(int code) {
        return new int[] {code / 100, code % 100 / 10, code % 10};
    }

    private static int hint(int code, int other) {
        int[] one = digits(code);
        int[] two = digits(other);
        int hint = 0;
        for (int i = 0; i < 3; i++) {
            if (one[i] == two[i]) {
                hint += 10;
                one[i] = -1;
                two[i] = -2;
            }
        }
        for (int i = 0; i < 3; i++) {
            for (int j = 0; j < 3; j++) {
                if (one[i] == two[j]) {
                    hint++;
                    one[i] = -1;
                    two[j] = -2;
                }
            }
        }
        return hint;
    }

    int secret(int code) {
        argument(isCode(code));
        int before = guesses.size();
        secret = code;
        guesses.clear();
        return before;
    }

    int guess(int code) {
        argument(isCode(code));
        legal(guesses.size() < 20);
        guesses.add(code);
        return hint(secret, code);
    }

    private List<Integer> codesLeft() {
        List<Integer> left = new ArrayList<>();
        for (int code = 0; code <= 333; code++) {
            boolean isLeft = isCode(code);
            for (int guess : guesses) {
                isLeft = isLeft && hint(code, guess) == hint(secret, guess);
            }
            if (isLeft) {
                left.add(code);
            }
        }
        return left;
    }

    int possible() {
        return codesLeft().size();
    }

    int nextCode() {
        return codesLeft().get(0);
    }

    int things(int many) {
        argument(many >= 2 && many <= 5);
        int before = things;
        things = many;
        told.clear();
        return before;
    }

    private int countOrders(List<Integer> placed) {
        if (placed.size() == things) {
            for (int[] pair : told) {
                if (placed.indexOf(pair[0]) > placed.indexOf(pair[1])) {
                    return 0;
                }
            }
            return 1;
        }
        int orders = 0;
        for (int thing = 0; thing < things; thing++) {
            if (!placed.contains(thing)) {
                List<Integer> more = new ArrayList<>(placed);
                more.add(thing);
                orders += countOrders(more);
            }
        }
        return orders;
    }

    private int ordersWith(int one, int other) {
        told.add(new int[] {one, other});
        int orders = orders();
        told.remove(told.size() - 1);
        return orders;
    }

    int ahead(int one, int other) {
        argument(one >= 0 && one < things && other >= 0 && other < things && one != other);
        int left = ordersWith(one, other);
        supported(left > 0);
        told.add(new int[] {one, other});
        return left;
    }

    int orders() {
        return countOrders(new ArrayList<>());
    }

    int pair() {
        element(orders() != 1);
        int best = -1;
        int most = -1;
        for (int one = things - 1; one >= 0; one--) {
            for (int other = things - 1; other > one; other--) {
                int less = Math.min(ordersWith(one, other), ordersWith(other, one));
                if (less >= most) {
                    most = less;
                    best = one * 10 + other;
                }
            }
        }
        return best;
    }

    // ---- sums

    long checksum() {
        List<Long> parts = new ArrayList<>();
        for (int c = 0; c < sets.size(); c++) {
            parts.add((long) sets.get(c));
            parts.add((long) conflicts.get(c));
        }
        for (int weight : weights) {
            parts.add((long) weight);
        }
        parts.addAll(Arrays.asList((long) possible(), (long) orders()));
        long sum = 7;
        for (long part : parts) {
            sum = sum * 31 + part;
        }
        return sum;
    }

    float aliveShare() {
        element(!sets.isEmpty());
        return (float) alive() / (float) sets.size();
    }

    double meanLesson() {
        element(!sets.isEmpty());
        int sum = 0;
        for (int c = 0; c < sets.size(); c++) {
            sum += lesson(c);
        }
        return (double) sum / (double) sets.size();
    }

    boolean isSound() {
        boolean ordered = sets.size() < 2 || dimension() <= mistakes() && mistakes() <= depth();
        boolean honoured = !taught || kind == 'a' || isAlive(hidden);
        return ordered && honoured && codesLeft().contains(secret);
    }

    // ---- what is thrown

    private static void argument(boolean holds) {
        if (!holds) {
            throw new IllegalArgumentException();
        }
    }

    private static void supported(boolean holds) {
        if (!holds) {
            throw new UnsupportedOperationException();
        }
    }

    private static void legal(boolean holds) {
        if (!holds) {
            throw new IllegalStateException();
        }
    }


    private static void element(boolean holds) {
        if (!holds) {
            throw new NoSuchElementException();
        }
    }

    private static void index(int index, int size) {
        if (index < 0 || index >= size) {
            throw new IndexOutOfBoundsException();
        }
    }
}
