/** The first example of the document. */
public final class ExampleTest {
    public static void main(String[] args) {
        Queryschool x = new Queryschool();
        concepts(x);
        others(x);
        Check.done("ExampleTest");
    }

    private static void concepts(Queryschool x) {
        Check.due("points(3)", 0, () -> x.points(3));
        Check.due("family('t')", 4, () -> x.family('t'));
        Check.due("concept(2)", 4, () -> x.concept(2));
        Check.due("setOf(4)", 2, () -> x.setOf(4));
        Check.due("dimension()", 2, () -> x.dimension());
        Check.due("isShattered(3)", true, () -> x.isShattered(3));
        Check.due("lesson(0)", 2, () -> x.lesson(0));
        Check.due("meanLesson()", 2.0, () -> x.meanLesson());
        Check.due("depth()", 3, () -> x.depth());
        Check.due("mistakes()", 2, () -> x.mistakes());
        Check.due("halver(2)", 1, () -> x.halver(2));
        Check.due("teach('h', 2, 0)", false, () -> x.teach('h', 2, 0));
        Check.due("best()", 0, () -> x.best());
        Check.due("ask(1)", true, () -> x.ask(1));
        Check.due("sure(0)", '?', () -> x.sure(0));
        Check.due("alive()", 3, () -> x.alive());
        Check.due("isAlive(0)", false, () -> x.isAlive(0));
        Check.due("conflicts(0)", 1, () -> x.conflicts(0));
        Check.due("equal(1)", 1, () -> x.equal(1));
        Check.due("answers()", 2, () -> x.answers());
        Check.due("learn()", 2, () -> x.learn());
        Check.due("found()", 2, () -> x.found());
        Check.due("aliveShare()", 0.2f, () -> x.aliveShare());
        Check.due("teach('l', 1, 2)", true, () -> x.teach('l', 1, 2));
        Check.due("seed(5)", 1, () -> x.seed(5));
        Check.due("ask(0)", true, () -> x.ask(0));
    }

    private static void others(Queryschool x) {
        Check.due("experts(3)", 0, () -> x.experts(3));
        Check.due("round(5, true)", true, () -> x.round(5, true));
        Check.due("round(1, false)", false, () -> x.round(1, false));
        Check.due("weight(0)", 512, () -> x.weight(0));
        Check.due("regret()", 0, () -> x.regret());
        Check.due("state(false)", 0, () -> x.state(false));
        Check.due("state(true)", 1, () -> x.state(true));
        Check.due("go(0, 'a', 1)", 0, () -> x.go(0, 'a', 1));
        Check.due("accepts(2, 1)", true, () -> x.accepts(2, 1));
        Check.due("apart(0, 1)", 0, () -> x.apart(0, 1));
        Check.due("leastStates()", 2, () -> x.leastStates());
        Check.due("sample(1, 0, true)", 1, () -> x.sample(1, 0, true));
        Check.due("sample(2, 3, false)", 2, () -> x.sample(2, 3, false));
        Check.due("fits()", true, () -> x.fits());
        Check.due("fewest()", 2, () -> x.fewest());
        Check.due("secret(123)", 0, () -> x.secret(123));
        Check.due("guess(321)", 12, () -> x.guess(321));
        Check.due("possible()", 3, () -> x.possible());
        Check.due("nextCode()", 123, () -> x.nextCode());
        Check.due("things(4)", 3, () -> x.things(4));
        Check.due("ahead(0, 1)", 12, () -> x.ahead(0, 1));
        Check.due("orders()", 12, () -> x.orders());
        Check.due("pair()", 23, () -> x.pair());
        Check.due("checksum()", -4661103605840669171L, () -> x.checksum());
        Check.due("isSound()", true, () -> x.isSound());
    }
}
