/** Promises 44 to 47: checksum, aliveShare, meanLesson, isSound. */
public final class SumsTest {
    public static void main(String[] args) {
        promise44();
        promise45();
        promise46();
        promise47();
        refusedCallsChangeNothing();
        Check.done("SumsTest");
    }

    private static long sum(long... parts) {
        long sum = 7;
        for (long part : parts) {
            sum = 31 * sum + part;
        }
        return sum;
    }

    private static void promise44() {
        Queryschool x = new Queryschool();
        Check.due("at first", sum(64, 6), () -> x.checksum());
        x.concept(9);
        x.concept(0);
        Check.due("two concepts", sum(9, 0, 0, 0, 64, 6), () -> x.checksum());
        x.teach('h', 0, 0);
        x.ask(0);
        Check.due("a conflict", sum(9, 0, 0, 1, 64, 6), () -> x.checksum());
        x.equal(9);
        Check.due("dead for good", sum(9, 0, 0, -1, 64, 6), () -> x.checksum());
        x.experts(2);
        x.round(2, true);
        Check.due("experts", sum(9, 0, 0, -1, 512, 1024, 64, 6), () -> x.checksum());
        x.guess(111);
        x.things(4);
        x.ahead(0, 1);
        Check.due("codes and orders", sum(9, 0, 0, -1, 512, 1024, 27, 12), () -> x.checksum());
        x.state(true);
        x.sample(0, 0, false);
        x.seed(9);
        Check.due("no machines in it", sum(9, 0, 0, -1, 512, 1024, 27, 12), () -> x.checksum());
    }

    private static void promise45() {
        Queryschool x = new Queryschool();
        Check.noElement("no concepts", () -> x.aliveShare());
        x.family('t');
        Check.due("all without a teacher", 1.0f, () -> x.aliveShare());
        x.concept(5);
        x.teach('h', 2, 0);
        x.ask(2);
        Check.due("three of six", 0.5f, () -> x.aliveShare());
        x.ask(1);
        Check.due("one of six", 1.0f / 6.0f, () -> x.aliveShare());
    }

    private static void promise46() {
        Queryschool x = new Queryschool();
        Check.noElement("no concepts", () -> x.meanLesson());
        x.concept(3);
        Check.due("one", 0.0, () -> x.meanLesson());
        x.concept(1);
        x.concept(0);
        Check.due("1 and 2 and 1", 4.0 / 3.0, () -> x.meanLesson());
        x.points(6);
        x.family('s');
        Check.due("6 and six ones", 12.0 / 7.0, () -> x.meanLesson());
    }

    private static void promise47() {
        Queryschool x = new Queryschool();
        Check.due("a new one", true, () -> x.isSound());
        x.concept(3);
        Check.due("one concept", true, () -> x.isSound());
        x.points(6);
        x.family('i');
        Check.due("a family", true, () -> x.isSound());
        Queryschool cube = new Queryschool();
        cube.points(4);
        cube.family('p');
        cube.concept(1);
        Check.due("as many mistakes as points", 4, () -> cube.depth());
        cube.points(1);
        cube.family('t');
        Check.due("all three are one", 3, () -> cube.dimension() + cube.mistakes() + cube.depth());
        Check.due("alike is sound", true, () -> cube.isSound());
        x.teach('l', 21, 2);
        x.learn();
        x.equal(5);
        Check.due("under a liar", true, () -> x.isSound());
        x.teach('a', -1, 0);
        x.learn();
        Check.due("under a keeper", true, () -> x.isSound());
        x.secret(201);
        x.guess(102);
        x.guess(333);
        Check.due("with hints", true, () -> x.isSound());
    }

    private static void refusedCallsChangeNothing() {
        Queryschool x = new Queryschool();
        x.family('i');
        x.teach('l', 3, 1);
        x.ask(2);
        x.experts(4);
        x.round(5, false);
        x.guess(12);
        x.ahead(2, 1);
        long before = x.checksum();
        Check.argument("points", () -> x.points(9));
        Check.unsupported("concept", () -> x.concept(5));
        Check.unsupported("family", () -> x.family('p'));
        Check.index("teach", () -> x.teach('h', 11, 0));
        Check.argument("teach", () -> x.teach('l', 0, 3));
        Check.argument("ask", () -> x.ask(4));
        Check.argument("equal", () -> x.equal(16));
        Check.argument("experts", () -> x.experts(7));
        Check.argument("round", () -> x.round(16, true));
        Check.argument("guess", () -> x.guess(4));
        Check.argument("secret", () -> x.secret(4));
        Check.argument("things", () -> x.things(6));
        Check.unsupported("ahead", () -> x.ahead(1, 2));
        Check.due("all is as it was", before, () -> x.checksum());
        Check.due("one answer", 1, () -> x.answers());
    }
}
