/** The boundary cases of promises 12 to 17, and of what 'Terms' says of learners. */
final class BoundsOfLearners {
    private BoundsOfLearners() {
    }

    static void run() {
        promise12NoSuchConcept();
        promise12Alive();
        promise13None();
        promise14OneAtLeast();
        promise14Signs();
        promise14NoSuchPoint();
        promise15LikeOnes();
        promise15AliveAlone();
        promise15FewerThanTwo();
        promise16FewerThanTwo();
        promise16Forty();
        promise16NoTeacher();
        promise17NotJustOne();
    }

    private static void promise12NoSuchConcept() {
        Doc.says(12, "Throws `IndexOutOfBoundsException` if there is no such concept");
        Queryschool x = School.of(2, 0, 1);
        Check.due("the last one", true, () -> x.isAlive(1));
        for (int concept : new int[] {Integer.MIN_VALUE, -1, 2, 23, 24, 31, 32, Integer.MAX_VALUE}) {
            Check.index("isAlive(" + concept + ")", () -> x.isAlive(concept));
        }
        Check.index("none at all", () -> new Queryschool().isAlive(0));
        Queryschool full = School.full();
        Check.due("the last of 24", true, () -> full.isAlive(23));
        Check.index("one beyond 24", () -> full.isAlive(24));
    }

    private static void promise12Alive() {
        Doc.says(12, "Those with no more conflicts than the budget are alive.");
        Queryschool x = School.of(2, 0, 1);
        Check.due("without a teacher", true, () -> x.isAlive(1));
        x.teach('l', 0, 1);
        x.ask(0);
        Check.due("as many as the budget", true, () -> x.isAlive(1));
        x.seed(1);
        x.ask(0);
        Check.due("one more", false, () -> x.isAlive(1));
        x.teach('l', 0, 2);
        x.equal(1);
        Check.due("dead for good is less than none", false, () -> x.isAlive(1));
        Check.due("the other one", true, () -> x.isAlive(0));
    }

    private static void promise13None() {
        Doc.says(13, "Those with no more conflicts than the budget are alive.");
        Check.due("without concepts", 0, () -> new Queryschool().alive());
        Check.due("all of 24 without a teacher", 24, () -> School.full().alive());
        Queryschool x = School.full();
        x.teach('h', 23, 0);
        Check.due("all of 24 ahead of any answer", 24, () -> x.alive());
        x.equal(63);
        Check.due("one", 1, () -> x.alive());
        x.points(6);
        Check.due("told anew, none", 0, () -> x.alive());
    }

    private static void promise14OneAtLeast() {
        Doc.says(14, "A point is sure if all agree on it, one at least.");
        Queryschool x = new Queryschool();
        Check.due("none alive, the lowest", '?', () -> x.sure(0));
        Check.due("none alive, the highest", '?', () -> x.sure(3));
        x.concept(8);
        Check.due("one alive, out", '-', () -> x.sure(0));
        Check.due("one alive, in", '+', () -> x.sure(3));
        x.concept(9);
        Check.due("two do not agree", '?', () -> x.sure(0));
        Check.due("two agree", '+', () -> x.sure(3));
    }

    private static void promise14Signs() {
        Doc.says(14, "Returns '+' in, '-' out, '?' not.");
        Queryschool x = School.full();
        Check.due("all of 24", '+', () -> x.sure(5));
        Check.due("half of 24", '?', () -> x.sure(0));
        x.teach('h', 0, 0);
        x.ask(0);
        Check.due("12 alive", '-', () -> x.sure(0));
        Check.due("40 to 63 without 1", '?', () -> x.sure(4));
        x.equal(40);
        Check.due("one alive", '+', () -> x.sure(3));
        Check.due("one alive", '-', () -> x.sure(4));
        Queryschool liar = School.taught('l', 0, 1, 1, 0, 1);
        liar.ask(0);
        Check.due("an answer alone proves nothing", '?', () -> liar.sure(0));
        liar.seed(1);
        liar.ask(0);
        Check.due("two do", '-', () -> liar.sure(0));
    }

    private static void promise14NoSuchPoint() {
        Doc.says(14, "Throws `IllegalArgumentException` if there is no such point");
        Queryschool x = School.of(3, 0);
        Check.due("the last one", '-', () -> x.sure(2));
        for (int point : new int[] {Integer.MIN_VALUE, -1, 3, 5, 6, 32, Integer.MAX_VALUE}) {
            Check.argument("sure(" + point + ")", () -> x.sure(point));
        }
    }

    private static void promise15LikeOnes() {
        Doc.says(15, "The best question is the point for which the less of both, those that have it and those "
                + "that have not, is greatest, of like ones the lowest point.");
        Check.due("the lowest alone", 0, () -> School.of(6, 62, 63).best());
        Check.due("the highest alone", 5, () -> School.of(6, 31, 63).best());
        Check.due("all alike", 0, () -> School.of(6, 0, 63).best());
        Check.due("all alike but the lowest", 1, () -> School.of(6, 1, 63).best());
        Check.due("all alike in the cube", 0, () -> School.cube(4).best());
        Check.due("one against three at 0, two against two at 1 and 2", 1, () -> School.of(3, 0, 2, 4, 7).best());
        Check.due("three against one is as one against three", 0, () -> School.of(3, 1, 3, 5, 0).best());
        Check.due("one against three is as three against one", 0, () -> School.of(3, 2, 6, 3, 0).best());
        Check.due("two against one is as one against two", 0, () -> School.of(2, 0, 1, 3).best());
        Check.due("one against two is as two against one", 0, () -> School.of(2, 2, 3, 0).best());
        Check.due("all have 0, none has 1", 2, () -> School.of(3, 1, 5).best());
        Check.due("12 of 24 at 0", 0, () -> School.full().best());
    }

    private static void promise15AliveAlone() {
        Doc.says(15, "What is alive alone counts.");
        Queryschool x = School.taught('h', 0, 0, 3, 0, 2, 1, 3, 5, 7);
        Check.due("three against three at 1", 1, () -> x.best());
        x.ask(0);
        Check.due("0 and 2 are left", 1, () -> x.best());
        x.teach('h', 2, 0);
        x.ask(1);
        Check.due("0, 1 and 5 are left, by none the other point", 0, () -> x.best());
        x.ask(0);
        Check.due("1 and 5 are left", 2, () -> x.best());
        Queryschool liar = School.taught('l', 0, 1, 2, 0, 1, 2);
        liar.ask(0);
        Check.due("1 is alive within the budget", 0, () -> liar.best());
        liar.seed(1);
        liar.ask(0);
        Check.due("1 is dead", 1, () -> liar.best());
    }

    private static void promise15FewerThanTwo() {
        Doc.says(15, "Throws `NoSuchElementException` if fewer than two are alive");
        Queryschool x = new Queryschool();
        Check.noElement("none", () -> x.best());
        x.concept(15);
        Check.noElement("one", () -> x.best());
        x.concept(7);
        Check.due("two", 3, () -> x.best());
        x.teach('h', 0, 0);
        x.ask(3);
        Check.noElement("one of two", () -> x.best());
        x.teach('l', 0, 1);
        x.ask(3);
        Check.due("two by a budget", 3, () -> x.best());
        x.equal(15);
        Check.noElement("one dead for good", () -> x.best());
    }

    private static void promise16FewerThanTwo() {
        Doc.says(16, "To learn asks the best question again and again until fewer than two are alive");
        Queryschool one = School.taught('h', 0, 0, 1, 1);
        Check.due("one alive from the first", 0, () -> one.learn());
        Check.due("none was asked", 0, () -> one.answers());
        Queryschool two = School.taught('a', 0, 0, 6, 31, 63);
        Check.due("two", 1, () -> two.learn());
        Check.due("of like ones in", 1, () -> two.found());
        Check.due("none more", 0, () -> two.learn());
        Queryschool liar = School.taught('l', 0, 2, 1, 0, 1);
        Check.due("the truth, two lies, the truth twice", 5, () -> liar.learn());
        Check.due("three against it, two against the other", "2 3", () -> School.conflicts(liar, 2));
        Queryschool full = School.full();
        full.teach('a', 0, 0);
        Check.due("24 by halves", 5, () -> full.learn());
        Check.due("one is left", 1, () -> full.alive());
        Queryschool singles = School.family(6, 's');
        singles.teach('a', 0, 0);
        Check.due("seven, one by one", 6, () -> singles.learn());
        Check.due("till two were left, then in", 6, () -> singles.found());
    }

    private static void promise16Forty() {
        Doc.says(16, "or 40 answers were given");
        Queryschool x = School.taught('h', 0, 0, 4, 0, 4, 8);
        School.ask(x, 0, 39);
        Check.due("one is left, two would be asked", 1, () -> x.learn());
        Check.due("40", 40, () -> x.answers());
        Check.due("two are alive still", 2, () -> x.alive());
        Check.due("none is left", 0, () -> x.learn());
        Check.due("40 still", 40, () -> x.answers());
        Queryschool y = School.taught('h', 0, 0, 4, 0, 4, 8);
        School.ask(y, 0, 38);
        Check.due("two are left", 2, () -> y.learn());
        Check.due("found", 0, () -> y.found());
    }

    private static void promise16NoTeacher() {
        Doc.says(16, "Throws `UnsupportedOperationException` if no teacher was told");
        Queryschool x = new Queryschool();
        Check.unsupported("without concepts", () -> x.learn());
        x.concept(0);
        Check.unsupported("with one", () -> x.learn());
        x.concept(1);
        Check.unsupported("with two", () -> x.learn());
        x.teach('h', 0, 0);
        x.points(4);
        Check.unsupported("none any more", () -> x.learn());
        Check.due("no answer", 0, () -> x.answers());
    }

    private static void promise17NotJustOne() {
        Doc.says(17, "Throws `NoSuchElementException` if there is not just one");
        Queryschool x = new Queryschool();
        Check.noElement("none", () -> x.found());
        x.concept(3);
        Check.due("one", 0, () -> x.found());
        x.concept(5);
        Check.noElement("two", () -> x.found());
        x.teach('h', 1, 0);
        x.ask(1);
        Check.due("the second of two", 1, () -> x.found());
        x.teach('l', 1, 1);
        x.ask(1);
        Check.noElement("two by a budget", () -> x.found());
        Queryschool full = School.full();
        Check.noElement("24", () -> full.found());
        full.teach('h', 23, 0);
        full.equal(63);
        Check.due("the last of 24", 23, () -> full.found());
        full.teach('h', 0, 0);
        full.equal(40);
        Check.due("the first of 24", 0, () -> full.found());
    }
}
