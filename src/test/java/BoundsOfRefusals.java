import java.util.ArrayList;
import java.util.List;

/**
 * Every exception of the face in every kind of school where it is due: it changes nothing, for a twin that
 * was not called so answers alike from then on; and of several the one listed first is thrown.
 */
final class BoundsOfRefusals {
    interface Refused {
        Object make(Queryschool x);
    }

    private static final String CHANGES_NOTHING = "A method that throws an exception changes nothing.";
    private static final String FIRST = "If several exceptions apply, the one that is listed first is thrown.";
    private static final String ARGUMENT = "IllegalArgumentException";
    private static final String INDEX = "IndexOutOfBoundsException";
    private static final String UNSUPPORTED = "UnsupportedOperationException";
    private static final String STATE = "IllegalStateException";
    private static final String ELEMENT = "NoSuchElementException";

    private static final int NEW = 0;
    private static final int BUSY = 1;
    private static final int CROWDED = 2;
    private static final int UNTAUGHT = 3;
    private static final int FEW = 4;

    private BoundsOfRefusals() {
    }

    static void run() {
        points();
        concepts();
        teachers();
        questions();
        looks();
        dimensions();
        experts();
        machines();
        samples();
        codes();
        orders();
        sums();
    }

    // ---- the schools

    private static Queryschool school(int kind) {
        Queryschool x = new Queryschool();
        if (kind == BUSY) {
            makeBusy(x);
        } else if (kind == CROWDED) {
            makeCrowded(x);
        } else if (kind == UNTAUGHT) {
            x.family('t');
            x.concept(5);
        } else if (kind == FEW) {
            makeFew(x);
        }
        return x;
    }

    /** Something of all, nothing at its limit; one lie of two was told. */
    private static void makeBusy(Queryschool x) {
        x.family('i');
        x.teach('l', 4, 2);
        x.seed(2147483646);
        x.ask(2);
        x.equal(1);
        x.ask(1);
        x.experts(3);
        x.round(3, true);
        x.round(4, true);
        x.state(false);
        x.state(true);
        x.state(true);
        x.go(0, 'a', 1);
        x.go(1, 'b', 2);
        x.sample(0, 0, false);
        x.sample(1, 0, true);
        x.sample(3, 5, false);
        x.secret(120);
        x.guess(12);
        x.things(4);
        x.ahead(3, 1);
        x.ahead(1, 0);
    }

    /** All is at its limit: 24 concepts, 40 answers, 6 experts, 5 states, 12 words, 20 hints, one order. */
    private static void makeCrowded(Queryschool x) {
        x.points(6);
        for (int set = 40; set < 64; set++) {
            x.concept(set);
        }
        x.teach('h', 3, 0);
        for (int answer = 0; answer < 38; answer++) {
            x.ask(answer % 3);
        }
        x.equal(40);
        x.equal(42);
        x.experts(6);
        x.round(21, true);
        for (int state = 0; state < 5; state++) {
            x.state(state == 4);
        }
        for (int state = 0; state < 4; state++) {
            x.go(state, 'b', state + 1);
        }
        for (int length = 0; length <= 8; length++) {
            x.sample(length, 0, length % 4 == 0);
        }
        for (int bits = 1; bits <= 3; bits++) {
            x.sample(4, bits, true);
        }
        x.secret(123);
        for (int hint = 0; hint < 20; hint++) {
            x.guess(hint % 4);
        }
        x.things(5);
        for (int thing = 0; thing < 4; thing++) {
            x.ahead(thing, thing + 1);
        }
    }

    /** Of all just what is needed to begin. */
    private static void makeFew(Queryschool x) {
        x.points(1);
        x.concept(1);
        x.teach('a', 0, 0);
        x.ask(0);
        x.experts(1);
        x.state(true);
        x.sample(0, 0, true);
        x.things(2);
    }

    // ---- what is refused

    private static void points() {
        for (int kind = NEW; kind <= FEW; kind++) {
            alone(2, kind, ARGUMENT, "points(0)", x -> x.points(0));
            alone(2, kind, ARGUMENT, "points(7)", x -> x.points(7));
        }
    }

    private static void concepts() {
        for (int kind = NEW; kind <= FEW; kind++) {
            alone(5, kind, INDEX, "setOf(24)", x -> x.setOf(24));
            alone(5, kind, INDEX, "setOf(-1)", x -> x.setOf(-1));
        }
        alone(3, NEW, ARGUMENT, "concept(16)", x -> x.concept(16));
        first(3, BUSY, ARGUMENT, "other points, answers", x -> x.concept(16));
        first(3, BUSY, UNSUPPORTED, "there, answers", x -> x.concept(1));
        alone(3, BUSY, UNSUPPORTED, "answers", x -> x.concept(5));
        first(3, CROWDED, ARGUMENT, "other points, answers, 24", x -> x.concept(64));
        first(3, CROWDED, UNSUPPORTED, "there, answers, 24", x -> x.concept(40));
        first(3, CROWDED, UNSUPPORTED, "answers, 24", x -> x.concept(0));
        alone(3, UNTAUGHT, UNSUPPORTED, "there", x -> x.concept(5));
        alone(4, NEW, ARGUMENT, "family('x')", x -> x.family('x'));
        first(4, BUSY, ARGUMENT, "no family, answers", x -> x.family('x'));
        alone(4, BUSY, UNSUPPORTED, "answers", x -> x.family('p'));
        first(4, CROWDED, ARGUMENT, "no family, answers, 24", x -> x.family('T'));
        first(4, CROWDED, UNSUPPORTED, "answers, more than 24", x -> x.family('p'));
        fullOfConcepts(3, UNSUPPORTED, "there, 24", x -> x.concept(63));
        fullOfConcepts(3, ARGUMENT, "other points, 24", x -> x.concept(64));
        fullOfConcepts(3, STATE, "24", x -> x.concept(0));
        fullOfConcepts(4, ARGUMENT, "no family, 24", x -> x.family('h'));
        fullOfConcepts(4, STATE, "more than 24", x -> x.family('s'));
    }

    private static void fullOfConcepts(int promise, String due, String what, Refused refused) {
        Doc.says(promise, FIRST);
        Queryschool called = School.full();
        check(due, what + ", ahead of any answer", refused, called, School.full());
    }

    private static void teachers() {
        first(6, NEW, ARGUMENT, "no kind, no concept, no concepts", x -> x.teach('x', 0, 0));
        first(6, NEW, ARGUMENT, "no budget, no concept, no concepts", x -> x.teach('l', 0, 3));
        first(6, NEW, INDEX, "no concept, no concepts", x -> x.teach('h', 0, 0));
        first(6, NEW, INDEX, "no concept, no concepts", x -> x.teach('l', 0, 2));
        alone(6, NEW, UNSUPPORTED, "no concepts", x -> x.teach('a', 0, 0));
        for (int kind = BUSY; kind <= FEW; kind++) {
            alone(6, kind, ARGUMENT, "no kind", x -> x.teach('t', 0, 0));
            first(6, kind, ARGUMENT, "no kind, no concept", x -> x.teach('t', 24, 0));
            alone(6, kind, ARGUMENT, "no budget", x -> x.teach('l', 0, -1));
            first(6, kind, ARGUMENT, "no budget, no concept", x -> x.teach('l', -1, 3));
            alone(6, kind, INDEX, "no concept", x -> x.teach('l', 24, 1));
            alone(6, kind, INDEX, "no concept", x -> x.teach('h', -1, 0));
        }
        for (int kind = NEW; kind <= FEW; kind++) {
            alone(7, kind, ARGUMENT, "seed(0)", x -> x.seed(0));
            alone(7, kind, ARGUMENT, "seed(2147483647)", x -> x.seed(2147483647));
        }
    }

    private static void questions() {
        for (int kind : new int[] {NEW, UNTAUGHT}) {
            first(8, kind, ARGUMENT, "no point, no teacher", x -> x.ask(4));
            alone(8, kind, UNSUPPORTED, "no teacher", x -> x.ask(3));
            first(9, kind, ARGUMENT, "other points, no teacher", x -> x.equal(16));
            alone(9, kind, UNSUPPORTED, "no teacher", x -> x.equal(15));
            alone(16, kind, UNSUPPORTED, "no teacher", x -> x.learn());
        }
        alone(8, BUSY, ARGUMENT, "no point", x -> x.ask(4));
        alone(9, BUSY, ARGUMENT, "other points", x -> x.equal(-1));
        first(8, CROWDED, ARGUMENT, "no point, 40", x -> x.ask(6));
        alone(8, CROWDED, STATE, "40", x -> x.ask(5));
        first(9, CROWDED, ARGUMENT, "other points, 40", x -> x.equal(64));
        alone(9, CROWDED, STATE, "40", x -> x.equal(43));
    }

    private static void looks() {
        for (int kind = NEW; kind <= FEW; kind++) {
            alone(11, kind, INDEX, "conflicts(24)", x -> x.conflicts(24));
            alone(12, kind, INDEX, "isAlive(-1)", x -> x.isAlive(-1));
            alone(14, kind, ARGUMENT, "sure(6)", x -> x.sure(6));
        }
        alone(15, NEW, ELEMENT, "none alive", x -> x.best());
        alone(15, FEW, ELEMENT, "one alive", x -> x.best());
        alone(17, NEW, ELEMENT, "none alive", x -> x.found());
        alone(17, UNTAUGHT, ELEMENT, "six alive", x -> x.found());
    }

    private static void dimensions() {
        for (int kind = NEW; kind <= FEW; kind++) {
            alone(18, kind, ARGUMENT, "isShattered(64)", x -> x.isShattered(64));
            alone(20, kind, INDEX, "lesson(24)", x -> x.lesson(24));
            alone(23, kind, INDEX, "halver(-1)", x -> x.halver(-1));
        }
    }

    private static void experts() {
        for (int kind = NEW; kind <= FEW; kind++) {
            alone(24, kind, ARGUMENT, "experts(0)", x -> x.experts(0));
            alone(24, kind, ARGUMENT, "experts(7)", x -> x.experts(7));
            alone(26, kind, INDEX, "weight(6)", x -> x.weight(6));
        }
        first(25, NEW, ARGUMENT, "bits of others, none", x -> x.round(1, true));
        alone(25, NEW, UNSUPPORTED, "none", x -> x.round(0, true));
        alone(25, BUSY, ARGUMENT, "bits of others", x -> x.round(8, false));
        alone(25, CROWDED, ARGUMENT, "bits of others", x -> x.round(64, true));
        alone(27, UNTAUGHT, UNSUPPORTED, "none", x -> x.regret());
    }

    private static void machines() {
        alone(28, CROWDED, STATE, "5", x -> x.state(true));
        for (int kind = NEW; kind <= FEW; kind++) {
            alone(29, kind, INDEX, "no state", x -> x.go(5, 'a', 0));
            alone(29, kind, INDEX, "no state to go to", x -> x.go(0, 'b', 5));
            first(29, kind, INDEX, "no state, no letter", x -> x.go(-1, 'c', 0));
            first(29, kind, INDEX, "no state to go to, no letter", x -> x.go(0, 'c', -1));
            alone(31, kind, INDEX, "no state", x -> x.apart(5, 0));
            first(31, kind, INDEX, "no state, not apart", x -> x.apart(5, 5));
        }
        alone(29, BUSY, ARGUMENT, "no letter", x -> x.go(0, 'c', 2));
        alone(29, FEW, ARGUMENT, "no letter", x -> x.go(0, 'A', 0));
        first(30, NEW, ARGUMENT, "no word, no state", x -> x.accepts(9, 0));
        alone(30, NEW, UNSUPPORTED, "no state", x -> x.accepts(0, 0));
        alone(30, BUSY, ARGUMENT, "no word", x -> x.accepts(2, 4));
        alone(31, BUSY, ELEMENT, "not apart", x -> x.apart(1, 2));
        alone(32, NEW, UNSUPPORTED, "no state", x -> x.leastStates());
    }

    private static void samples() {
        for (int kind = NEW; kind <= FEW; kind++) {
            first(33, kind, ARGUMENT, "no word, perhaps 12", x -> x.sample(9, 0, true));
            first(33, kind, ARGUMENT, "bits behind, perhaps 12", x -> x.sample(4, 16, true));
        }
        alone(33, BUSY, UNSUPPORTED, "there", x -> x.sample(3, 5, true));
        first(33, CROWDED, UNSUPPORTED, "there, 12", x -> x.sample(4, 3, false));
        alone(33, CROWDED, STATE, "12", x -> x.sample(4, 12, true));
        alone(34, NEW, UNSUPPORTED, "no state", x -> x.fits());
        alone(35, CROWDED, ELEMENT, "more than 3", x -> x.fewest());
    }

    private static void codes() {
        for (int kind = NEW; kind <= FEW; kind++) {
            alone(36, kind, ARGUMENT, "secret(334)", x -> x.secret(334));
            alone(36, kind, ARGUMENT, "secret(-1)", x -> x.secret(-1));
            first(37, kind, ARGUMENT, "no code, perhaps 20", x -> x.guess(40));
        }
        alone(37, CROWDED, STATE, "20", x -> x.guess(123));
    }

    private static void orders() {
        for (int kind = NEW; kind <= FEW; kind++) {
            alone(40, kind, ARGUMENT, "things(1)", x -> x.things(1));
            alone(40, kind, ARGUMENT, "things(6)", x -> x.things(6));
            alone(41, kind, ARGUMENT, "no thing", x -> x.ahead(5, 0));
            alone(41, kind, ARGUMENT, "no other thing", x -> x.ahead(0, 5));
            first(41, kind, ARGUMENT, "the same, no order", x -> x.ahead(1, 1));
        }
        alone(41, BUSY, UNSUPPORTED, "no order", x -> x.ahead(0, 3));
        alone(41, CROWDED, UNSUPPORTED, "no order", x -> x.ahead(4, 0));
        alone(43, CROWDED, ELEMENT, "one order", x -> x.pair());
    }

    private static void sums() {
        alone(45, NEW, ELEMENT, "no concepts", x -> x.aliveShare());
        alone(46, NEW, ELEMENT, "no concepts", x -> x.meanLesson());
    }

    // ---- how it is checked

    private static void alone(int promise, int kind, String due, String what, Refused refused) {
        Doc.says(promise, CHANGES_NOTHING);
        check(due, what + ", school " + kind, refused, school(kind), school(kind));
    }

    private static void first(int promise, int kind, String due, String what, Refused refused) {
        Doc.says(promise, FIRST);
        check(due, what + ", school " + kind, refused, school(kind), school(kind));
    }

    private static void check(String due, String what, Refused refused, Queryschool called, Queryschool twin) {
        Check.due(what, "throws " + due, () -> refused.make(called));
        List<String> want = story(twin);
        List<String> got = story(called);
        for (int i = 0; i < want.size(); i++) {
            String answer = got.get(i);
            Check.due("behind " + what, want.get(i), () -> answer);
        }
    }

    /** What a school answers, first to looks, then to calls that bring out all that it holds. */
    private static List<String> story(Queryschool x) {
        List<String> story = new ArrayList<>();
        tell(story, "checksum", () -> x.checksum());
        tell(story, "answers", () -> x.answers());
        tell(story, "best", () -> x.best());
        tell(story, "regret", () -> x.regret());
        tell(story, "fits", () -> x.fits());
        tell(story, "fewest", () -> x.fewest());
        tell(story, "nextCode", () -> x.nextCode());
        tell(story, "pair", () -> x.pair());
        tell(story, "sound", () -> x.isSound());
        tell(story, "z", () -> x.seed(2147483646));
        machine(story, x);
        teacher(story, x);
        tell(story, "round", () -> x.round(0, true) + " " + x.regret());
        tell(story, "experts", () -> x.experts(1));
        tell(story, "words", () -> x.sample(8, 200, true));
        tell(story, "hint", () -> x.guess(123));
        tell(story, "hints", () -> x.secret(0));
        tell(story, "orders by 0 and 1", () -> x.ahead(0, 1));
        tell(story, "things", () -> x.things(5));
        tell(story, "concepts", () -> x.points(1));
        return story;
    }

    private static void machine(List<String> story, Queryschool x) {
        for (int state = 0; state < 5; state++) {
            int own = state;
            tell(story, "apart " + own, () -> x.apart(0, own));
            tell(story, "a from " + own, () -> x.go(own, 'a', own));
            tell(story, "b from " + own, () -> x.go(own, 'b', own));
        }
        tell(story, "accepts", () -> x.accepts(0, 0));
        tell(story, "states", () -> x.state(true));
    }

    private static void teacher(List<String> story, Queryschool x) {
        for (int point = 0; point < 6; point++) {
            int own = point;
            tell(story, "sure " + own, () -> x.sure(own));
            tell(story, "shattered " + own, () -> x.isShattered(1 << own));
        }
        tell(story, "concept", () -> x.concept(1));
        for (int point = 0; point < 4; point++) {
            int own = point;
            tell(story, "ask " + own, () -> x.ask(own));
        }
        tell(story, "z again", () -> x.seed(2147483646));
        tell(story, "learn", () -> x.learn());
        tell(story, "equal", () -> x.equal(0));
        tell(story, "checksum again", () -> x.checksum());
        tell(story, "alive", () -> x.alive() + " " + x.aliveShare());
        tell(story, "z at last", () -> x.seed(1));
    }

    private static void tell(List<String> story, String name, Check.Call call) {
        story.add(name + " " + Check.outcome(call));
    }
}
