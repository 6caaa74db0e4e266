/** Promises 1 to 5: a new object, points, concept, family, setOf. */
public final class ConceptsTest {
    public static void main(String[] args) {
        promise1();
        promise2();
        promise2Forgets();
        promise3();
        promise3Full();
        promise4();
        promise4Sets();
        promise4Wrong();
        promise5();
        Check.done("ConceptsTest");
    }

    private static void promise1() {
        Queryschool x = new Queryschool();
        Check.index("no concept at first", () -> x.setOf(0));
        Check.unsupported("no teacher at first", () -> x.ask(3));
        Check.argument("the points 0 to 3 alone at first", () -> x.ask(4));
        Check.index("no expert at first", () -> x.weight(0));
        Check.unsupported("no state at first", () -> x.leastStates());
        Check.due("no answers at first", 0, () -> x.answers());
        Check.due("nothing alive at first", 0, () -> x.alive());
        Check.due("no sample at first", 1, () -> x.fewest());
        Check.due("all codes possible at first", 64, () -> x.possible());
        Check.due("all orders of three things at first", 6, () -> x.orders());
        Check.due("four points have 16 sets", 15, () -> {
            for (int set = 0; set < 15; set++) {
                x.concept(set);
            }
            return x.concept(15);
        });
    }

    private static void promise2() {
        Queryschool x = new Queryschool();
        Check.due("points(1)", 0, () -> x.points(1));
        Check.argument("points(0)", () -> x.points(0));
        Check.argument("points(7)", () -> x.points(7));
        Check.argument("points(least)", () -> x.points(Integer.MIN_VALUE));
        Check.argument("points(greatest)", () -> x.points(Integer.MAX_VALUE));
        Check.argument("a set of two points over one", () -> x.concept(2));
        Check.due("a set of one point over one", 0, () -> x.concept(1));
        Check.argument("a wrong number changes nothing", () -> x.points(-1));
        Check.due("the concept is still there", 1, () -> x.points(6));
        Check.due("all six points", 0, () -> x.concept(63));
        Check.argument("a seventh point", () -> x.concept(64));
    }

    private static void promise2Forgets() {
        Queryschool x = new Queryschool();
        x.family('t');
        x.teach('l', 2, 2);
        x.seed(7);
        x.ask(0);
        x.equal(1);
        Check.due("points tells how many there were", 5, () -> x.points(4));
        Check.due("answers are gone", 0, () -> x.answers());
        Check.unsupported("the teacher is gone", () -> x.ask(0));
        Check.index("the concepts are gone", () -> x.setOf(0));
        Check.due("concepts can be added again", 5, () -> x.family('t'));
        Check.due("deaths are gone", 5, () -> x.alive());
        Check.due("conflicts are gone", 0, () -> x.conflicts(0));
        Check.due("there was no teacher", false, () -> x.teach('h', 0, 0));
        Check.due("z stays", 7 * 48271, () -> x.seed(1));
        Queryschool y = new Queryschool();
        y.points(6);
        y.concept(63);
        y.points(6);
        y.concept(0);
        for (int point = 0; point < 6; point++) {
            int own = point;
            Check.due("nothing of the concept before at " + point, '-', () -> y.sure(own));
        }
    }

    private static void promise3() {
        Queryschool x = new Queryschool();
        Check.due("the first one", 0, () -> x.concept(5));
        Check.due("the empty set", 1, () -> x.concept(0));
        Check.due("all points", 2, () -> x.concept(15));
        Check.argument("other points", () -> x.concept(16));
        Check.argument("bits below 0", () -> x.concept(-1));
        Check.argument("the least number", () -> x.concept(Integer.MIN_VALUE));
        Check.unsupported("one that is there", () -> x.concept(5));
        x.teach('h', 0, 0);
        Check.due("under a teacher ahead of any answer", 3, () -> x.concept(3));
        Check.due("it has no conflicts", 0, () -> x.conflicts(3));
        Check.due("it is alive", true, () -> x.isAlive(3));
        x.ask(0);
        Check.unsupported("answers were given", () -> x.concept(7));
        Check.argument("other points come first", () -> x.concept(17));
        x.teach('h', 0, 0);
        Check.due("told anew, no answers", 4, () -> x.concept(7));
        x.equal(7);
        Check.unsupported("an equality is an answer", () -> x.concept(8));
    }

    private static void promise3Full() {
        Queryschool x = new Queryschool();
        x.points(6);
        for (int set = 0; set < 24; set++) {
            int own = set;
            Check.due("number " + set, set, () -> x.concept(own));
        }
        Check.illegalState("there are 24", () -> x.concept(24));
        Check.unsupported("there, and there are 24", () -> x.concept(23));
        Check.argument("other points, and there are 24", () -> x.concept(64));
        x.teach('h', 0, 0);
        x.ask(0);
        Check.unsupported("answers, and there are 24", () -> x.concept(24));
    }

    private static void promise4() {
        int[] below = {2, 3, 4, 5, 6, 7};
        int[] ones = {2, 3, 4, 5, 6, 7};
        int[] runs = {2, 4, 7, 11, 16, 22};
        int[] even = {1, 2, 4, 8, 16};
        for (int points = 1; points <= 6; points++) {
            int many = points;
            Check.due("'t' over " + many, below[points - 1], () -> fresh(many).family('t'));
            Check.due("'s' over " + many, ones[points - 1], () -> fresh(many).family('s'));
            Check.due("'i' over " + many, runs[points - 1], () -> fresh(many).family('i'));
            if (points < 6) {
                Check.due("'p' over " + many, even[points - 1], () -> fresh(many).family('p'));
            }
        }
        Check.illegalState("'p' over 6 has 32", () -> fresh(6).family('p'));
    }

    private static Queryschool fresh(int points) {
        Queryschool x = new Queryschool();
        x.points(points);
        return x;
    }

    private static void promise4Sets() {
        sets('t', new int[] {0, 1, 3, 7});
        sets('s', new int[] {0, 1, 2, 4});
        sets('i', new int[] {0, 1, 2, 3, 4, 6, 7});
        sets('p', new int[] {0, 3, 5, 6});
        Queryschool x = fresh(3);
        x.concept(3);
        x.concept(0);
        Check.due("those not there yet", 4, () -> x.family('t'));
        Check.due("by rising bits", 1, () -> x.setOf(2));
        Check.due("then the next", 7, () -> x.setOf(3));
        Check.due("twice adds nothing", 4, () -> x.family('t'));
        Check.due("'i' adds three more", 7, () -> x.family('i'));
        Check.due("the first of them", 2, () -> x.setOf(4));
    }

    private static void sets(char family, int[] sets) {
        Queryschool x = fresh(3);
        Check.due("family " + family, sets.length, () -> x.family(family));
        for (int c = 0; c < sets.length; c++) {
            int number = c;
            Check.due("family " + family + " at " + c, sets[c], () -> x.setOf(number));
        }
    }

    private static void promise4Wrong() {
        Queryschool x = fresh(6);
        Check.argument("no such family", () -> x.family('x'));
        Check.argument("no capitals", () -> x.family('T'));
        Check.argument("the sign 0", () -> x.family((char) 0));
        x.family('i');
        Check.illegalState("22 and more", () -> x.family('p'));
        Check.due("nothing was added", 22, () -> x.family('i'));
        Check.due("a family that is there", 22, () -> x.family('s'));
        x.concept(5);
        x.concept(9);
        Check.due("24 and none more", 24, () -> x.family('t'));
        x.teach('a', 0, 0);
        x.ask(0);
        Check.unsupported("answers were given", () -> x.family('t'));
        Check.unsupported("answers come ahead of too many", () -> x.family('p'));
        Check.argument("no such family comes first", () -> x.family('q'));
        Queryschool y = fresh(6);
        for (int set = 0; set < 18; set++) {
            y.concept(set * 2 + 1);
        }
        Check.due("18 and six of the seven", 24, () -> y.family('s'));
        Queryschool z = fresh(6);
        for (int set = 0; set < 19; set++) {
            z.concept(set * 2 + 1);
        }
        Check.illegalState("19 and six of the seven", () -> z.family('s'));
        Check.due("a family refused adds nothing", 19, () -> z.points(1));
    }

    private static void promise5() {
        Queryschool x = new Queryschool();
        Check.index("none", () -> x.setOf(0));
        x.concept(9);
        x.concept(6);
        Check.due("setOf(0)", 9, () -> x.setOf(0));
        Check.due("setOf(1)", 6, () -> x.setOf(1));
        Check.index("setOf(2)", () -> x.setOf(2));
        Check.index("setOf(-1)", () -> x.setOf(-1));
        Check.index("setOf(24)", () -> x.setOf(24));
        Check.index("setOf(greatest)", () -> x.setOf(Integer.MAX_VALUE));
        Check.index("setOf(least)", () -> x.setOf(Integer.MIN_VALUE));
    }
}
