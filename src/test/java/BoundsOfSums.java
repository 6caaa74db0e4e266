import java.math.BigInteger;

/** The boundary cases of promises 44 to 47, and of what the document says of exceptions and of 512 calls. */
final class BoundsOfSums {
    private BoundsOfSums() {
    }

    static void run() {
        promise44AtFirst();
        promise44DeadForGood();
        promise44WrapsAround();
        promise44The512thCall();
        promise45None();
        promise45ToFloat();
        promise46None();
        promise46ToDouble();
        promise47TwoOrMore();
        promise47HiddenOne();
        promise47PossibleCode();
    }

    private static void promise44AtFirst() {
        Doc.says(44, "Returns 7 at first, then for each concept 31 times itself plus its set");
        Queryschool x = new Queryschool();
        Check.due("7, 64 codes and 6 orders", (7 * 31 + 64) * 31 + 6, () -> x.checksum());
        x.concept(0);
        Check.due("a concept of 0", (((7 * 31 + 0) * 31 + 0) * 31 + 64) * 31 + 6, () -> x.checksum());
        x.points(6);
        Check.due("without concepts again", (7 * 31 + 64) * 31 + 6, () -> x.checksum());
        x.things(2);
        x.ahead(1, 0);
        x.guess(0);
        Check.due("one code and one order", (7 * 31 + 1) * 31 + 1, () -> x.checksum());
    }

    private static void promise44DeadForGood() {
        Doc.says(44, "then 31 times itself plus its conflicts, -1 for those dead for good;");
        Queryschool x = School.taught('h', 0, 0, 1, 0, 1);
        Check.due("no conflict", sum(0, 0, 1, 0, 64, 6), () -> x.checksum());
        x.ask(0);
        Check.due("a conflict", sum(0, 0, 1, 1, 64, 6), () -> x.checksum());
        x.equal(0);
        Check.due("dead for good", sum(0, 0, 1, -1, 64, 6), () -> x.checksum());
    }

    /** By numbers without a bound, and then by the 64 bits of a long. */
    private static String sum(long... parts) {
        BigInteger sum = BigInteger.valueOf(7);
        for (long part : parts) {
            sum = sum.multiply(BigInteger.valueOf(31)).add(BigInteger.valueOf(part));
        }
        return String.valueOf(sum.longValue());
    }

    private static void promise44WrapsAround() {
        Doc.says(44, "then for each expert 31 times itself plus the weight; then 31 times itself plus how many codes "
                + "are possible, then 31 times itself plus how many orders there are.");
        Queryschool x = School.full();
        x.experts(6);
        x.round(32, true);
        long[] parts = new long[56];
        for (int concept = 0; concept < 24; concept++) {
            parts[2 * concept] = 40 + concept;
        }
        for (int expert = 0; expert < 6; expert++) {
            parts[48 + expert] = expert == 5 ? 1024 : 512;
        }
        parts[54] = 64;
        parts[55] = 6;
        Check.due("24 concepts and 6 experts go round the long", sum(parts), () -> x.checksum());
    }

    private static void promise44The512thCall() {
        Doc.says(44, "An object is used for at most 512 calls after it has been made");
        Queryschool x = new Queryschool();
        x.experts(1);
        for (int call = 2; call < 511; call++) {
            x.round(0, true);
        }
        Check.due("the 511th", 0, () -> x.regret());
        Check.due("the 512th", sum(1, 64, 6), () -> x.checksum());
    }

    private static void promise45None() {
        Doc.says(45, "Throws `NoSuchElementException` if there are none");
        Queryschool x = new Queryschool();
        Check.noElement("none", () -> x.aliveShare());
        x.concept(0);
        Check.due("one is enough", 1.0f, () -> x.aliveShare());
        x.points(4);
        Check.noElement("none again", () -> x.aliveShare());
    }

    private static void promise45ToFloat() {
        Doc.says(45, "Returns their number divided by that of all, both converted to float.");
        Queryschool x = School.taught('h', 0, 0, 2, 0, 1, 2);
        Check.due("all", 1.0f, () -> x.aliveShare());
        x.ask(0);
        Check.due("two of three, as a float", 2.0f / 3.0f, () -> x.aliveShare());
        x.ask(1);
        Check.due("one of three, as a float", 1.0f / 3.0f, () -> x.aliveShare());
        Queryschool full = School.full();
        full.teach('h', 0, 0);
        full.equal(40);
        Check.due("one of 24", 1.0f / 24.0f, () -> full.aliveShare());
    }

    private static void promise46None() {
        Doc.says(46, "Throws `NoSuchElementException` if there are none");
        Queryschool x = new Queryschool();
        Check.noElement("none", () -> x.meanLesson());
        x.concept(0);
        Check.due("one needs no point", 0.0, () -> x.meanLesson());
        x.points(4);
        Check.noElement("none again", () -> x.meanLesson());
    }

    private static void promise46ToDouble() {
        Doc.says(46, "Returns the sum divided by the number of concepts, both converted to double.");
        Check.due("2, 1 and 1 of three, as a double", 4.0 / 3.0, () -> School.of(2, 1, 3, 0).meanLesson());
        Check.due("6 and six ones of seven", 12.0 / 7.0, () -> School.family(6, 's').meanLesson());
        Check.due("as many as can be", 4.0, () -> School.cube(4).meanLesson());
        Check.due("all of 24: 8 by 4, 8 by 4, 8 by 5", (8 * 4 + 8 * 4 + 8 * 5) / 24.0,
                () -> School.full().meanLesson());
    }

    private static void promise47TwoOrMore() {
        Doc.says(47, "Tells whether the dimension is no greater than the mistakes, and these no greater than the "
                + "depth, with two concepts or more;");
        Queryschool x = new Queryschool();
        Check.due("without concepts, though -1 is less than 0", true, () -> x.isSound());
        x.concept(15);
        Check.due("one", true, () -> x.isSound());
        x.concept(0);
        Check.due("two", true, () -> x.isSound());
        Check.due("all three alike: 4", true, () -> School.cube(4).isSound());
        Check.due("all three unlike: 2, 2 and 3", true, () -> School.family(6, 't').isSound());
        Check.due("24", true, () -> School.full().isSound());
    }

    private static void promise47HiddenOne() {
        Doc.says(47, "the hidden concept of a teacher who has one is alive;");
        Queryschool x = School.taught('l', 0, 2, 1, 0, 1);
        x.ask(0);
        x.ask(0);
        x.ask(0);
        Check.due("two lies are against it, as many as the budget", 2, () -> x.conflicts(0));
        Check.due("it is alive", true, () -> x.isSound());
        x.equal(0);
        Check.due("it is it", true, () -> x.isSound());
        x.teach('a', 0, 2);
        x.equal(0);
        Check.due("'a' has none, though 0 is dead for good", true, () -> x.isSound());
        x.points(1);
        Check.due("no teacher, no concepts", true, () -> x.isSound());
        Queryschool last = School.full();
        last.teach('h', 23, 0);
        last.equal(62);
        last.ask(5);
        Check.due("the last of 24", true, () -> last.isSound());
    }

    private static void promise47PossibleCode() {
        Doc.says(47, "and the secret is a possible code.");
        Queryschool x = new Queryschool();
        for (int code : new int[] {0, 333, 123, 300, 3}) {
            x.secret(code);
            x.guess(111);
            x.guess(230);
            x.guess(code);
            Check.due("the secret " + code, true, () -> x.isSound());
        }
    }
}
