/** The boundary cases of promises 18 to 23, and of what 'Terms' says of dimensions. */
final class BoundsOfDimensions {
    private BoundsOfDimensions() {
    }

    static void run() {
        promise18ByAllConcepts();
        promise18EachPart();
        promise18OtherPoints();
        promise19WithoutConcepts();
        promise20FewestPoints();
        promise20NoSuchConcept();
        promise21OneOrNone();
        promise21Worst();
        promise21ToldAnew();
        promise22OneOrNone();
        promise22Forced();
        promise23LikeOnesIn();
        promise23NoSuchConcept();
    }

    private static void promise18ByAllConcepts() {
        Doc.says(18, "Dimensions, by all concepts.");
        Queryschool x = School.taught('h', 0, 0, 3, 0, 1, 2, 4);
        x.ask(1);
        Check.due("2 is not alive, but counts", true, () -> x.isShattered(2));
        x.equal(0);
        Check.due("one alive", 1, () -> x.alive());
        Check.due("those dead for good count, too", true, () -> x.isShattered(4));
        Check.due("in the dimension", 1, () -> x.dimension());
        Check.due("in a lesson", 3, () -> x.lesson(0));
        Check.due("in the depth", 3, () -> x.depth());
        Check.due("in the mistakes", 1, () -> x.mistakes());
        Check.due("for the halver", 1, () -> x.halver(0));
        Check.due("in the mean", 1.5, () -> x.meanLesson());
    }

    private static void promise18EachPart() {
        Doc.says(18, "A set of points is shattered if each of its parts is what some concept has of it;");
        Queryschool none = new Queryschool();
        Check.due("the empty set has a part, too, without concepts", false, () -> none.isShattered(0));
        Check.due("all points without concepts", false, () -> none.isShattered(15));
        Queryschool one = School.of(6, 63);
        Check.due("the empty set by one", true, () -> one.isShattered(0));
        Check.due("one point by one", false, () -> one.isShattered(1));
        for (int missing = 0; missing < 16; missing++) {
            Queryschool x = School.of(4);
            for (int set = 0; set < 16; set++) {
                if (set != missing) {
                    x.concept(set);
                }
            }
            Check.due("all points, but one part: " + missing, false, () -> x.isShattered(15));
            Check.due("three of four: " + missing, true, () -> x.isShattered(14));
            x.concept(missing);
            Check.due("all points, each part", true, () -> x.isShattered(15));
        }
        Queryschool high = School.of(6, 0, 16, 32, 48);
        Check.due("the two highest", true, () -> high.isShattered(48));
        Check.due("all six", false, () -> high.isShattered(63));
        Queryschool twice = School.of(3, 0, 1, 2, 4, 5);
        Check.due("many have the same part", false, () -> twice.isShattered(3));
        Check.due("24 have 4 parts of each kind", true, () -> School.full().isShattered(7));
    }

    private static void promise18OtherPoints() {
        Doc.says(18, "Throws `IllegalArgumentException` if it has other points");
        Queryschool x = School.of(3, 0, 7);
        Check.due("all points", false, () -> x.isShattered(7));
        for (int set : new int[] {8, 15, 16, 64, 1 << 30, Integer.MAX_VALUE, Integer.MIN_VALUE, -8, -1}) {
            Check.argument("isShattered(" + set + ")", () -> x.isShattered(set));
        }
    }

    private static void promise19WithoutConcepts() {
        Doc.says(19, "the dimension is the size of the greatest one, -1 without concepts");
        Queryschool x = new Queryschool();
        Check.due("without concepts", -1, () -> x.dimension());
        x.concept(6);
        Check.due("one", 0, () -> x.dimension());
        x.concept(7);
        Check.due("two", 1, () -> x.dimension());
        x.points(6);
        Check.due("without concepts again", -1, () -> x.dimension());
        Check.due("three, no two points", 1, () -> School.of(2, 0, 1, 2).dimension());
        Check.due("four", 2, () -> School.of(2, 0, 1, 2, 3).dimension());
        Check.due("the two highest of six alone", 2, () -> School.of(6, 0, 16, 32, 48).dimension());
        Check.due("the last one is smaller", 2, () -> School.of(3, 0, 1, 2, 3, 4).dimension());
        Check.due("as great as can be by 16", 4, () -> School.cube(4).dimension());
        Check.due("by 24 over six", 4, () -> School.full().dimension());
    }

    private static void promise20FewestPoints() {
        Doc.says(20, "A lesson of a concept is a set of points on which no other concept agrees with it on all; "
                + "the least has the fewest points.");
        Check.due("without others none", 0, () -> School.of(6, 33).lesson(0));
        Check.due("the highest alone", 1, () -> School.of(6, 31, 63).lesson(1));
        Check.due("as many as there are", 6, () -> School.family(6, 's').lesson(0));
        Check.due("one of one", 1, () -> School.cube(1).lesson(0));
        Check.due("all in the cube", 4, () -> School.cube(4).lesson(15));
        Queryschool x = School.of(4, 0, 1, 2, 12);
        Check.due("0 and 1, and 2 or 3", 3, () -> x.lesson(0));
        Check.due("0 alone, though others differ at all", 1, () -> x.lesson(1));
        Check.due("2 or 3", 1, () -> x.lesson(3));
        Check.due("all of 24, by five points", 5, () -> School.full().lesson(23));
        Check.due("the first of 24, by four points", 4, () -> School.full().lesson(0));
    }

    private static void promise20NoSuchConcept() {
        Doc.says(20, "Throws `IndexOutOfBoundsException` if there is no such concept");
        Queryschool x = School.of(2, 0, 1);
        Check.due("the last one", 1, () -> x.lesson(1));
        for (int concept : new int[] {Integer.MIN_VALUE, -1, 2, 24, Integer.MAX_VALUE}) {
            Check.index("lesson(" + concept + ")", () -> x.lesson(concept));
        }
        Check.index("none at all", () -> new Queryschool().lesson(0));
        Check.index("one beyond 24", () -> School.full().lesson(24));
    }

    private static void promise21OneOrNone() {
        Doc.says(21, "0 for one or none");
        Queryschool x = new Queryschool();
        Check.due("none", 0, () -> x.depth());
        x.concept(15);
        Check.due("one", 0, () -> x.depth());
        x.concept(0);
        Check.due("two", 1, () -> x.depth());
        x.points(5);
        Check.due("none again", 0, () -> x.depth());
    }

    private static void promise21Worst() {
        Doc.says(21, "The depth is the least number of questions on the worst concept by which an honest "
                + "teacher's concept is told apart");
        Check.due("as many as there are points", 6, () -> School.family(6, 's').depth());
        Check.due("one point", 1, () -> School.cube(1).depth());
        Check.due("three concepts", 2, () -> School.of(2, 0, 1, 3).depth());
        Check.due("the worst is a single one, not the first", 3, () -> School.of(3, 7, 6, 5, 3).depth());
        Check.due("the least, not by points in their order", 2, () -> School.of(4, 1, 2, 4, 12).depth());
        Check.due("24 by halves", 5, () -> School.full().depth());
    }

    private static void promise21ToldAnew() {
        Doc.says(21, "told anew 0 to as many as 5");
        Queryschool x = new Queryschool();
        int[] many = {6, 1, 5, 2, 4, 3, 1, 6};
        for (int points : many) {
            x.points(points);
            x.family('s');
            Check.due("as many questions as points: " + points, points, () -> x.depth());
            Check.due("one mistake by " + points, 1, () -> x.mistakes());
            Check.due("sound by " + points, true, () -> x.isSound());
        }
    }

    private static void promise22OneOrNone() {
        Doc.says(22, "0 for one or none;");
        Queryschool x = new Queryschool();
        Check.due("none", 0, () -> x.mistakes());
        x.concept(15);
        Check.due("one", 0, () -> x.mistakes());
        x.concept(0);
        Check.due("two", 1, () -> x.mistakes());
        x.points(5);
        Check.due("none again", 0, () -> x.mistakes());
    }

    private static void promise22Forced() {
        Doc.says(22, "for more the greatest over the points on which they differ of 1 and the less of both "
                + "for those that have it, and those that have not.");
        Check.due("they differ at the highest alone", 1, () -> School.of(6, 31, 63).mistakes());
        Check.due("they differ at the lowest alone", 1, () -> School.of(6, 62, 63).mistakes());
        Check.due("the less of 0 and 1", 1, () -> School.of(2, 0, 1, 3).mistakes());
        Check.due("1 and 1", 2, () -> School.cube(2).mistakes());
        Check.due("the greatest is at the highest", 2, () -> School.of(3, 0, 1, 4, 6).mistakes());
        Check.due("as many as points", 4, () -> School.cube(4).mistakes());
        Check.due("24 over six", 4, () -> School.full().mistakes());
        Check.due("many points, one mistake", 1, () -> School.family(6, 's').mistakes());
    }

    private static void promise23LikeOnesIn() {
        Doc.says(23, "The halver tells, for the points in their order, what more of the concepts say that agree "
                + "with all so far, of like ones that it is in.");
        Check.due("one alone, in", 0, () -> School.of(6, 63).halver(0));
        Check.due("one alone, out", 0, () -> School.of(6, 0).halver(0));
        Queryschool two = School.of(6, 0, 32);
        Check.due("like ones at the highest, it is out", 1, () -> two.halver(0));
        Check.due("like ones at the highest, it is in", 0, () -> two.halver(1));
        Queryschool cube = School.cube(4);
        Check.due("like ones at each, out of all", 4, () -> cube.halver(0));
        Check.due("like ones at each, in all", 0, () -> cube.halver(15));
        Queryschool x = School.of(2, 0, 2, 1);
        Check.due("out at 0, then like ones", 1, () -> x.halver(0));
        Check.due("out at 0, then in", 0, () -> x.halver(1));
        Check.due("in at 0, then alone", 1, () -> x.halver(2));
        Queryschool full = School.full();
        Check.due("the last of 24", 0, () -> full.halver(23));
        Check.due("the first of 24", 4, () -> full.halver(0));
    }

    private static void promise23NoSuchConcept() {
        Doc.says(23, "Throws `IndexOutOfBoundsException` if there is no such concept");
        Queryschool x = School.of(2, 0, 1);
        Check.due("the last one", 0, () -> x.halver(1));
        for (int concept : new int[] {Integer.MIN_VALUE, -1, 2, 24, Integer.MAX_VALUE}) {
            Check.index("halver(" + concept + ")", () -> x.halver(concept));
        }
        Check.index("none at all", () -> new Queryschool().halver(0));
        Check.index("one beyond 24", () -> School.full().halver(24));
    }
}
