/** Promises 18 to 23: isShattered, dimension, lesson, depth, mistakes, halver. */
public final class DimensionsTest {
    public static void main(String[] args) {
        promise18();
        promise19();
        promise20();
        promise21();
        promise22();
        promise23();
        byAllConcepts();
        Check.done("DimensionsTest");
    }

    private static Queryschool of(int... sets) {
        Queryschool x = new Queryschool();
        for (int set : sets) {
            x.concept(set);
        }
        return x;
    }

    private static Queryschool family(int points, char family) {
        Queryschool x = new Queryschool();
        x.points(points);
        x.family(family);
        return x;
    }

    private static Queryschool cube(int points) {
        Queryschool x = new Queryschool();
        x.points(points);
        for (int set = 0; set < 1 << points; set++) {
            x.concept(set);
        }
        return x;
    }

    private static void promise18() {
        Queryschool none = new Queryschool();
        Check.due("nothing is shattered by nothing", false, () -> none.isShattered(0));
        Check.argument("isShattered(16)", () -> none.isShattered(16));
        Check.argument("isShattered(-1)", () -> none.isShattered(-1));
        Queryschool x = of(0, 1, 2, 7);
        Check.due("the empty set", true, () -> x.isShattered(0));
        Check.due("one point", true, () -> x.isShattered(4));
        Check.due("a point that none has", false, () -> x.isShattered(8));
        Check.due("two points", true, () -> x.isShattered(3));
        Check.due("two points, a part is missing", false, () -> x.isShattered(5));
        Check.due("three points", false, () -> x.isShattered(7));
        Queryschool four = cube(4);
        Check.due("all four points", true, () -> four.isShattered(15));
        Queryschool six = family(6, 'i');
        Check.due("two ends of six", true, () -> six.isShattered(33));
        Check.due("three of six", false, () -> six.isShattered(56));
    }

    private static void promise19() {
        Check.due("without concepts", -1, () -> new Queryschool().dimension());
        Check.due("one concept", 0, () -> of(5).dimension());
        Check.due("two concepts", 1, () -> of(5, 4).dimension());
        Check.due("thresholds", 1, () -> family(6, 't').dimension());
        Check.due("single ones", 1, () -> family(6, 's').dimension());
        Check.due("runs", 2, () -> family(6, 'i').dimension());
        Check.due("even ones over five", 4, () -> family(5, 'p').dimension());
        Check.due("all over four", 4, () -> cube(4).dimension());
        Check.due("all over one", 1, () -> cube(1).dimension());
    }

    private static void promise20() {
        Check.index("none", () -> new Queryschool().lesson(0));
        Check.due("one concept needs no point", 0, () -> of(7).lesson(0));
        Queryschool x = family(4, 's');
        Check.due("the empty one needs all", 4, () -> x.lesson(0));
        Check.due("a single one needs its point", 1, () -> x.lesson(3));
        Check.index("lesson(5)", () -> x.lesson(5));
        Check.index("lesson(-1)", () -> x.lesson(-1));
        Check.due("in the cube all", 4, () -> cube(4).lesson(9));
        Queryschool t = family(6, 't');
        Check.due("the first threshold", 1, () -> t.lesson(0));
        Check.due("one between", 2, () -> t.lesson(3));
        Check.due("the last one", 1, () -> t.lesson(6));
    }

    private static void promise21() {
        Check.due("without concepts", 0, () -> new Queryschool().depth());
        Check.due("one concept", 0, () -> of(3).depth());
        Check.due("two concepts", 1, () -> of(3, 12).depth());
        Check.due("seven thresholds", 3, () -> family(6, 't').depth());
        Check.due("two that differ at one point", 1, () -> of(1, 0).depth());
        Check.due("two that differ at one point", 1, () -> of(0, 1).depth());
        Check.due("four thresholds", 2, () -> family(3, 't').depth());
        Check.due("seven single ones", 6, () -> family(6, 's').depth());
        Check.due("the cube", 4, () -> cube(4).depth());
        Check.due("even ones over five", 4, () -> family(5, 'p').depth());
        Check.due("runs of six", 6, () -> family(6, 'i').depth());
    }

    private static void promise22() {
        Check.due("without concepts", 0, () -> new Queryschool().mistakes());
        Check.due("one concept", 0, () -> of(3).mistakes());
        Check.due("two concepts", 1, () -> of(3, 12).mistakes());
        Check.due("two that differ at one point", 1, () -> of(1, 0).mistakes());
        Check.due("two that differ at one point", 1, () -> of(0, 1).mistakes());
        Check.due("three concepts", 1, () -> of(0, 1, 3).mistakes());
        Check.due("four thresholds", 2, () -> family(3, 't').mistakes());
        Check.due("seven thresholds", 2, () -> family(6, 't').mistakes());
        Check.due("single ones", 1, () -> family(6, 's').mistakes());
        Check.due("the cube", 4, () -> cube(4).mistakes());
        Check.due("even ones over five", 4, () -> family(5, 'p').mistakes());
        Check.due("runs of six", 4, () -> family(6, 'i').mistakes());
    }

    private static void promise23() {
        Check.index("none", () -> new Queryschool().halver(0));
        Queryschool one = of(5);
        Check.due("one concept", 0, () -> one.halver(0));
        Check.index("halver(1)", () -> one.halver(1));
        Check.index("halver(-1)", () -> one.halver(-1));
        Queryschool two = of(0, 1);
        Check.due("of like ones in", 1, () -> two.halver(0));
        Check.due("of like ones in", 0, () -> two.halver(1));
        Queryschool x = family(4, 's');
        Check.due("out is what more say, till two are left", 1, () -> x.halver(0));
        Check.due("0 is said to be out", 1, () -> x.halver(1));
        Check.due("3 is in, of like ones", 0, () -> x.halver(4));
        Check.due("all in the cube", 0, () -> cube(4).halver(15));
        Check.due("none in the cube", 4, () -> cube(4).halver(0));
        Check.due("some in the cube", 2, () -> cube(4).halver(5));
    }

    private static void byAllConcepts() {
        Queryschool x = family(4, 's');
        x.teach('h', 0, 0);
        x.equal(0);
        Check.due("one alive", 1, () -> x.alive());
        Check.due("the dimension is by all", 1, () -> x.dimension());
        Check.due("a set is shattered by all", true, () -> x.isShattered(8));
        Check.due("a lesson is by all", 4, () -> x.lesson(0));
        Check.due("the depth is by all", 4, () -> x.depth());
        Check.due("the mistakes are by all", 1, () -> x.mistakes());
        Check.due("the halver is by all", 1, () -> x.halver(0));
    }
}
