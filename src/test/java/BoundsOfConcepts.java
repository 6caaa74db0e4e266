/** The boundary cases of promises 1 to 5, and of what 'Terms' says of concepts. */
final class BoundsOfConcepts {
    private BoundsOfConcepts() {
    }

    static void run() {
        promise1NothingIsThere();
        promise1PointsAtFirst();
        promise2OneToSix();
        promise2AsManyAsFive();
        promise2WithoutAll();
        promise2OutOfRange();
        promise3Bits();
        promise3Unlike();
        promise3Numbered();
        promise3OtherPoints();
        promise3ThereOrAnswers();
        promise3ThereAre24();
        promise4NotThereYet();
        promise4Below();
        promise4Single();
        promise4Runs();
        promise4Even();
        promise4NoSuchFamily();
        promise4Answers();
        promise4MoreThan24();
        promise5NoSuchConcept();
    }

    private static void promise1NothingIsThere() {
        Doc.says(1, "Creates a school with four points, without concepts, teacher, experts and states.");
        Queryschool x = new Queryschool();
        Check.index("no concept", () -> x.setOf(0));
        Check.due("none alive", 0, () -> x.alive());
        Check.unsupported("no teacher to ask", () -> x.ask(0));
        Check.unsupported("no teacher to ask for a set", () -> x.equal(0));
        Check.unsupported("no teacher to learn from", () -> x.learn());
        Check.index("no expert", () -> x.weight(0));
        Check.unsupported("no crowd", () -> x.round(0, true));
        Check.unsupported("no regret", () -> x.regret());
        Check.index("no state to go from", () -> x.go(0, 'a', 0));
        Check.unsupported("no state to begin at", () -> x.accepts(0, 0));
        Check.unsupported("no state to fit", () -> x.fits());
        Check.due("no answers", 0, () -> x.answers());
        Check.due("no hints", 0, () -> x.secret(0));
        Check.due("the first state", 0, () -> x.state(true));
        Check.due("the first word", 1, () -> x.sample(0, 0, true));
        Check.due("there was no teacher", false, () -> School.of(4, 0).teach('a', 0, 0));
    }

    private static void promise1PointsAtFirst() {
        Doc.says(1, "There are the points 0 to 3 at first");
        Queryschool x = new Queryschool();
        Check.due("the point 3 is there", '?', () -> x.sure(3));
        Check.argument("the point 4 is not", () -> x.sure(4));
        Check.due("all four points", 0, () -> x.concept(15));
        Check.argument("the point 4 alone", () -> x.concept(16));
        Check.due("the point 3 is in", '+', () -> x.sure(3));
    }

    private static void promise2OneToSix() {
        Doc.says(2, "- `points`: how many, 1 to 6");
        Queryschool x = new Queryschool();
        Check.due("the fewest", 0, () -> x.points(1));
        Check.argument("one too few", () -> x.points(0));
        Check.due("the most", 0, () -> x.points(6));
        Check.argument("one too many", () -> x.points(7));
    }

    private static void promise2AsManyAsFive() {
        Doc.says(2, "told anew 0 to as many as 5");
        for (int points = 1; points <= 6; points++) {
            int last = points - 1;
            int all = (1 << points) - 1;
            Queryschool x = School.of(points);
            Check.due("all of " + points, 0, () -> x.concept(all));
            Check.argument("a concept beyond " + points, () -> x.concept(all + 1));
            Check.due("the last of " + points, '+', () -> x.sure(last));
            Check.argument("sure beyond " + points, () -> x.sure(last + 1));
            Check.due("shattered, all of " + points, false, () -> x.isShattered(all));
            Check.argument("shattered beyond " + points, () -> x.isShattered(all + 1));
            x.teach('h', 0, 0);
            Check.due("asked for the last of " + points, true, () -> x.ask(last));
            Check.argument("asked beyond " + points, () -> x.ask(last + 1));
            Check.due("equal to all of " + points, -1, () -> x.equal(all));
            Check.argument("equal beyond " + points, () -> x.equal(all + 1));
        }
    }

    private static void promise2WithoutAll() {
        Doc.says(2, "Tells points anew, without concepts, teacher and answers.");
        Queryschool x = School.taught('l', 1, 2, 4, 15, 0, 1);
        x.ask(0);
        x.equal(8);
        Check.due("how many concepts there were", 3, () -> x.points(4));
        Check.due("none then", 0, () -> x.points(4));
        Check.index("no concept", () -> x.conflicts(0));
        Check.due("no answers", 0, () -> x.answers());
        Check.unsupported("no teacher", () -> x.ask(0));
        Check.due("an old set is not there", 0, () -> x.concept(15));
        Check.due("no conflicts or deaths", 0, () -> x.conflicts(0));
        Check.due("there was no teacher", false, () -> x.teach('h', 0, 0));
        Check.due("of 24", 24, () -> School.full().points(1));
        Queryschool all = School.of(6, 63, 62);
        all.points(6);
        all.concept(0);
        for (int point = 0; point < 6; point++) {
            int own = point;
            Check.due("nothing of those before at " + own, '-', () -> all.sure(own));
        }
    }

    private static void promise2OutOfRange() {
        Doc.says(2, "Throws `IllegalArgumentException` if a number is out of range");
        Queryschool x = School.taught('h', 0, 0, 4, 15);
        for (int points : new int[] {Integer.MIN_VALUE, -1, 0, 7, 8, 33, Integer.MAX_VALUE}) {
            Check.argument("points(" + points + ")", () -> x.points(points));
        }
        Check.due("all is there still", true, () -> x.ask(3));
        Check.argument("there are four points still", () -> x.ask(4));
    }

    private static void promise3Bits() {
        Doc.says(3, "told as bits, 1 for the point 0, 2 for the point 1 and so on");
        for (int point = 0; point < 6; point++) {
            Queryschool x = School.of(6, 1 << point);
            for (int other = 0; other < 6; other++) {
                int asked = other;
                Check.due(point + " alone, seen at " + other, point == other ? '+' : '-', () -> x.sure(asked));
            }
        }
    }

    private static void promise3Unlike() {
        Doc.says(3, "at most 24 unlike ones");
        Queryschool x = School.full();
        for (int set = 40; set < 64; set++) {
            int again = set;
            Check.unsupported("twice: " + set, () -> x.concept(again));
        }
        Queryschool empty = School.of(1, 0);
        Check.unsupported("none twice", () -> empty.concept(0));
    }

    private static void promise3Numbered() {
        Doc.says(3, "are numbered from 0");
        Queryschool x = School.of(6);
        for (int set = 0; set < 24; set++) {
            int next = 63 - set;
            int number = set;
            Check.due("number " + set, number, () -> x.concept(next));
        }
        Check.due("the last one's set", 40, () -> x.setOf(23));
        Check.due("the last one is alive", true, () -> x.isAlive(23));
        Check.due("all alive", 24, () -> x.alive());
        Check.due("the last one as the hidden one", false, () -> x.teach('h', 23, 0));
        x.learn();
        Check.due("the last one found", 23, () -> x.found());
    }

    private static void promise3OtherPoints() {
        Doc.says(3, "Throws `IllegalArgumentException` if it has other points");
        Queryschool x = new Queryschool();
        for (int set : new int[] {16, 17, 32, 1 << 30, Integer.MAX_VALUE}) {
            Check.argument("concept(" + set + ")", () -> x.concept(set));
        }
        for (int set : School.BEYOND) {
            Check.argument("concept(" + set + ")", () -> x.concept(set));
        }
        Check.due("none was added", 0, () -> x.concept(15));
        Queryschool one = School.of(1);
        Check.argument("one point has two sets", () -> one.concept(2));
        Queryschool six = School.of(6);
        Check.argument("six points have 64", () -> six.concept(64));
    }

    private static void promise3ThereOrAnswers() {
        Doc.says(3, "Throws `UnsupportedOperationException` if it is there, or answers were given");
        Queryschool x = School.of(4, 3, 5);
        Check.unsupported("the first one again", () -> x.concept(3));
        Check.unsupported("the last one again", () -> x.concept(5));
        x.teach('h', 0, 0);
        Check.due("no answer yet", 2, () -> x.concept(9));
        x.ask(0);
        Check.unsupported("a question was answered", () -> x.concept(8));
        Check.due("it was not added", 3, () -> x.points(4));
        Queryschool y = School.taught('a', 0, 0, 4, 3);
        y.equal(3);
        Check.unsupported("an equality was answered", () -> y.concept(8));
        Queryschool z = School.taught('h', 0, 0, 4, 3, 5);
        z.learn();
        Check.unsupported("what was learnt are answers", () -> z.concept(8));
        z.teach('h', 0, 0);
        Check.due("told anew, none", 2, () -> z.concept(8));
    }

    private static void promise3ThereAre24() {
        Doc.says(3, "Throws `IllegalStateException` if there are 24");
        Queryschool x = School.of(6);
        for (int set = 0; set < 23; set++) {
            x.concept(set);
        }
        Check.due("23 are not too many", 23, () -> x.concept(23));
        Check.illegalState("24 are", () -> x.concept(24));
        Check.illegalState("once more", () -> x.concept(63));
        Check.due("24 still", 24, () -> x.alive());
    }

    private static void promise4NotThereYet() {
        Doc.says(4, "Families add those of their sets that are not there yet, by rising bits");
        Queryschool x = School.of(3, 7, 2);
        Check.due("three more", 5, () -> x.family('t'));
        Check.due("behind the others", "7 2 0 1 3", () -> School.sets(x, 5));
        Check.due("none more", 5, () -> x.family('t'));
        Check.due("4 more", 6, () -> x.family('s'));
        Check.due("6 and then 5 more", "7 2 0 1 3 4 6 5", () -> {
            x.family('i');
            x.family('p');
            return School.sets(x, 8);
        });
        Queryschool y = School.of(2, 3, 2, 1, 0);
        Check.due("all there", 4, () -> y.family('i'));
    }

    private static void promise4Below() {
        Doc.says(4, "'t' all points below some point, or all, or none");
        family('t', 1, "0 1");
        family('t', 2, "0 1 3");
        family('t', 6, "0 1 3 7 15 31 63");
    }

    private static void promise4Single() {
        Doc.says(4, "'s' one point, or none");
        family('s', 1, "0 1");
        family('s', 2, "0 1 2");
        family('s', 6, "0 1 2 4 8 16 32");
    }

    private static void promise4Runs() {
        Doc.says(4, "'i' points one behind the other without a gap, or none");
        family('i', 1, "0 1");
        family('i', 2, "0 1 2 3");
        family('i', 3, "0 1 2 3 4 6 7");
        family('i', 6, "0 1 2 3 4 6 7 8 12 14 15 16 24 28 30 31 32 48 56 60 62 63");
    }

    private static void promise4Even() {
        Doc.says(4, "'p' an even number of points");
        family('p', 1, "0");
        family('p', 2, "0 3");
        family('p', 4, "0 3 5 6 9 10 12 15");
        family('p', 5, "0 3 5 6 9 10 12 15 17 18 20 23 24 27 29 30");
    }

    private static void family(char family, int points, String sets) {
        int many = sets.split(" ").length;
        Queryschool x = School.of(points);
        Check.due(family + " over " + points, many, () -> x.family(family));
        Check.due("the sets of " + family + " over " + points, sets, () -> School.sets(x, many));
    }

    private static void promise4NoSuchFamily() {
        Doc.says(4, "Throws `IllegalArgumentException` if there is no such family");
        Queryschool x = new Queryschool();
        for (int sign : new int[] {0, 'a', 'h', 'j', 'o', 'q', 'r', 'u', 'T', 'S', 'I', 'P', ' ', 371, 65535}) {
            Check.argument("the sign " + sign, () -> x.family((char) sign));
        }
        Check.due("none was added", 0, () -> x.points(1));
    }

    private static void promise4Answers() {
        Doc.says(4, "Throws `UnsupportedOperationException` if answers were given");
        Queryschool x = School.taught('h', 0, 0, 3, 5);
        Check.due("none yet", 5, () -> x.family('t'));
        x.ask(0);
        Check.unsupported("one", () -> x.family('s'));
        Check.unsupported("though all are there", () -> x.family('t'));
        x.teach('h', 0, 0);
        Check.due("told anew, none", 7, () -> x.family('s'));
        x.equal(5);
        Check.unsupported("an equality is one", () -> x.family('s'));
    }

    private static void promise4MoreThan24() {
        Doc.says(4, "Throws `IllegalStateException` if there would be more than 24");
        Check.illegalState("32 even sets of six points", () -> School.family(6, 'p'));
        Queryschool x = School.family(6, 'i');
        x.concept(5);
        Check.illegalState("23 and more than one", () -> x.family('p'));
        x.concept(9);
        Check.illegalState("24 and more", () -> x.family('p'));
        Check.due("24 and none more", 24, () -> x.family('s'));
        Check.due("none was added", "5 9", () -> x.setOf(22) + " " + x.setOf(23));
        Queryschool just = School.of(5, 1, 2, 4, 7, 8, 11, 13, 14);
        Check.due("8 and 16 are 24", 24, () -> just.family('p'));
        Queryschool over = School.of(5, 1, 2, 4, 7, 8, 11, 13, 14, 16);
        Check.illegalState("9 and 16 are 25", () -> over.family('p'));
        Check.due("not even some of them", 9, () -> over.alive());
        Check.due("9 and 4 are not", 13, () -> over.family('t'));
    }

    private static void promise5NoSuchConcept() {
        Doc.says(5, "Throws `IndexOutOfBoundsException` if there is no such concept");
        Queryschool x = new Queryschool();
        Check.index("none at all", () -> x.setOf(0));
        x.concept(9);
        Check.due("the only one", 9, () -> x.setOf(0));
        for (int concept : new int[] {Integer.MIN_VALUE, -1, 1, 24, Integer.MAX_VALUE}) {
            Check.index("setOf(" + concept + ")", () -> x.setOf(concept));
        }
        Queryschool full = School.full();
        Check.due("the last of 24", 63, () -> full.setOf(23));
        Check.index("one beyond 24", () -> full.setOf(24));
        full.points(6);
        Check.index("told anew, none", () -> full.setOf(0));
    }
}
