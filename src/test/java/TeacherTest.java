/** Promises 6 to 17: teach, seed, ask, equal, and what the answers leave. */
public final class TeacherTest {
    public static void main(String[] args) {
        promise6();
        promise6Forgets();
        promise7();
        promise8Honest();
        promise8Draws();
        promise8Lying();
        promise8Keeping();
        promise8Wrong();
        promise9();
        promise9Keeping();
        promise9Wrong();
        promise10();
        promise11And12And13();
        promise14();
        promise15();
        promise16();
        promise16Ends();
        promise17();
        Check.done("TeacherTest");
    }

    private static Queryschool of(int... sets) {
        Queryschool x = new Queryschool();
        for (int set : sets) {
            x.concept(set);
        }
        return x;
    }

    private static void promise6() {
        Queryschool none = new Queryschool();
        Check.unsupported("'a' without concepts", () -> none.teach('a', 0, 0));
        Check.index("'h' without concepts", () -> none.teach('h', 0, 0));
        Check.index("'l' without concepts", () -> none.teach('l', 0, 1));
        Check.argument("no such kind without concepts", () -> none.teach('x', 0, 0));
        Queryschool x = of(1, 2);
        Check.argument("no such kind", () -> x.teach('H', 0, 0));
        Check.argument("a budget of 3", () -> x.teach('l', 0, 3));
        Check.argument("a budget below 0", () -> x.teach('l', 0, -1));
        Check.argument("the budget comes ahead of the concept", () -> x.teach('l', 2, 3));
        Check.index("no such concept", () -> x.teach('l', 2, 2));
        Check.index("no such concept", () -> x.teach('h', -1, 0));
        Check.due("nothing was told yet", false, () -> x.teach('h', 1, 99));
        Check.due("there was one", true, () -> x.teach('a', -5, 99));
        Check.due("there was one", true, () -> x.teach('l', 0, 0));
        Check.due("there was one", true, () -> x.teach('l', 1, 2));
        Check.index("a wrong one changes nothing", () -> x.teach('h', 5, 0));
        Check.due("still 'l' with two lies", 2, () -> {
            x.seed(5);
            x.ask(0);
            return x.alive();
        });
    }

    private static void promise6Forgets() {
        Queryschool x = of(0, 1, 3, 7);
        x.teach('h', 1, 2);
        x.ask(0);
        Check.due("a budget means nothing for 'h'", 3, () -> x.alive());
        x.equal(0);
        x.teach('h', 0, 0);
        Check.due("answers are gone", 0, () -> x.answers());
        Check.due("conflicts and deaths are gone", 4, () -> x.alive());
        Check.due("conflicts are gone", 0, () -> x.conflicts(0));
        x.teach('l', 0, 1);
        x.seed(1);
        int lies = 0;
        for (int i = 0; i < 30; i++) {
            lies += x.ask(0) ? 1 : 0;
        }
        int told = lies;
        Check.due("one lie by a budget of one", 1, () -> told);
        x.teach('l', 0, 1);
        int again = 0;
        for (int i = 0; i < 30; i++) {
            again += x.ask(0) ? 1 : 0;
        }
        int toldAgain = again;
        Check.due("told anew, it may lie again", 1, () -> toldAgain);
    }

    private static void promise7() {
        Queryschool x = new Queryschool();
        Check.due("z is 1 at first", 1, () -> x.seed(2147483646));
        Check.due("the greatest z", 2147483646, () -> x.seed(1));
        Check.argument("seed(0)", () -> x.seed(0));
        Check.argument("seed(-1)", () -> x.seed(-1));
        Check.argument("seed(least)", () -> x.seed(Integer.MIN_VALUE));
        Check.argument("seed(greatest)", () -> x.seed(2147483647));
        Check.due("a wrong one changes nothing", 1, () -> x.seed(2));
        Queryschool y = of(0, 1);
        y.seed(2147483646);
        y.teach('l', 0, 1);
        Check.due("telling a teacher keeps z", 2147483646, () -> y.seed(2147483646));
        y.ask(0);
        Check.due("z becomes z times 48271 modulo", 2147483647 - 48271, () -> y.seed(1));
    }

    private static void promise8Honest() {
        Queryschool x = of(0, 1, 3, 7, 10);
        x.teach('h', 4, 0);
        Check.due("0 is out of 10", false, () -> x.ask(0));
        Check.due("1 is in 10", true, () -> x.ask(1));
        Check.due("2 is out of 10", false, () -> x.ask(2));
        Check.due("3 is in 10", true, () -> x.ask(3));
        Check.due("an honest one draws nothing", 1, () -> x.seed(1));
        Check.due("0 has two against it", 2, () -> x.conflicts(0));
        Check.due("1 has three against it", 3, () -> x.conflicts(1));
        Check.due("7 has three against it", 3, () -> x.conflicts(3));
        Check.due("10 has none", 0, () -> x.conflicts(4));
    }

    private static void promise8Draws() {
        int[] seeds = {1, 2, 3, 5, 6, 44, 1000, 99999, 48271, 2147483645, 2147483646};
        for (int seed : seeds) {
            Queryschool x = of(0, 1);
            x.teach('l', 1, 1);
            x.seed(seed);
            long z = seed;
            boolean hasLied = false;
            for (int i = 0; i < 12; i++) {
                z = hasLied ? z : z * 48271 % 2147483647;
                boolean lies = !hasLied && z % 3 == 0;
                Check.due("seed " + seed + ", ask " + i, !lies, () -> x.ask(0));
                hasLied = hasLied || lies;
            }
            long last = z;
            Check.due("z after seed " + seed, last, () -> x.seed(1));
        }
    }

    private static void promise8Lying() {
        long z = 1;
        int lies = 0;
        Queryschool x = of(0, 1);
        x.teach('l', 0, 2);
        for (int i = 0; i < 40; i++) {
            boolean due = false;
            if (lies < 2) {
                z = z * 48271 % 2147483647;
                due = z % 3 == 0;
                lies += due ? 1 : 0;
            }
            Check.due("ask " + i, due, () -> x.ask(0));
        }
        int told = lies;
        long last = z;
        Check.due("both lies were told", 2, () -> told);
        Check.due("no draws after the last lie", last, () -> x.seed(1));
        Check.due("its concept has its lies against it", 2, () -> x.conflicts(0));
        Check.due("and is alive", true, () -> x.isAlive(0));
        Check.due("the other has 38", 38, () -> x.conflicts(1));
        Queryschool y = of(0, 1);
        y.teach('l', 0, 0);
        Check.due("a budget of none", false, () -> y.ask(0));
        Check.due("draws nothing", 1, () -> y.seed(1));
    }

    private static void promise8Keeping() {
        Queryschool x = of(0, 1, 2, 3, 6);
        x.teach('a', 0, 2);
        Check.due("three have 1, two have not", true, () -> x.ask(1));
        Check.due("the budget is none", 3, () -> x.alive());
        Check.due("one has 0, two have not", false, () -> x.ask(0));
        Check.due("of like ones in", true, () -> x.ask(2));
        Check.due("one is left", 4, () -> x.found());
        Check.due("it keeps it", true, () -> x.ask(1));
        Check.due("it keeps it", false, () -> x.ask(3));
        Check.due("still alive", 4, () -> x.found());
        Check.due("nothing was drawn", 1, () -> x.seed(1));
    }

    private static void promise8Wrong() {
        Queryschool x = of(0, 1);
        Check.argument("no such point, no teacher", () -> x.ask(4));
        Check.unsupported("no teacher", () -> x.ask(0));
        x.teach('h', 0, 0);
        Check.argument("ask(-1)", () -> x.ask(-1));
        Check.argument("ask(4)", () -> x.ask(4));
        Check.argument("ask(greatest)", () -> x.ask(Integer.MAX_VALUE));
        Check.due("nothing was answered", 0, () -> x.answers());
        for (int i = 0; i < 39; i++) {
            x.ask(0);
        }
        Check.due("the fortieth", false, () -> x.ask(0));
        Check.illegalState("the forty-first", () -> x.ask(0));
        Check.argument("no such point comes first", () -> x.ask(9));
        Check.due("forty", 40, () -> x.answers());
        Check.due("nothing changed", 40, () -> x.conflicts(1));
    }

    private static void promise9() {
        Queryschool x = of(0, 1, 6, 7, 12);
        x.teach('h', 3, 0);
        Check.due("the lowest of two", 1, () -> x.equal(1));
        Check.due("0 agrees with 1 there", -1, () -> x.conflicts(0));
        Check.due("1 agrees with itself", -1, () -> x.conflicts(1));
        Check.due("12 agrees there", -1, () -> x.conflicts(4));
        Check.due("6 does not", 0, () -> x.conflicts(2));
        Check.due("a set that is no concept", 2, () -> x.equal(3));
        Check.due("none more agrees", 2, () -> x.alive());
        Check.due("the dead stay so", -1, () -> x.conflicts(4));
        x.ask(1);
        Check.due("no conflict more for the dead", -1, () -> x.conflicts(0));
        Check.due("it is it", -1, () -> x.equal(7));
        Check.due("all others are dead", -1, () -> x.conflicts(2));
        Check.due("it is alive", 3, () -> x.found());
        Queryschool y = of(0, 1);
        y.teach('l', 1, 2);
        y.seed(1);
        for (int i = 0; i < 30; i++) {
            y.equal(2);
        }
        Check.due("equalities draw nothing", 1, () -> y.seed(1));
        Check.due("the liar does not lie", -1, () -> y.equal(1));
        Check.due("nor let another live", 1, () -> y.alive());
    }

    private static void promise9Keeping() {
        Queryschool x = of(0, 3, 5, 9, 8);
        x.teach('a', 0, 0);
        Check.due("three differ from 0 at 0", 0, () -> x.equal(0));
        Check.due("those that agree are dead", -1, () -> x.conflicts(0));
        Check.due("those that agree are dead", -1, () -> x.conflicts(4));
        Check.due("one differs at 1, 2 and 3 each", 1, () -> x.equal(1));
        Check.due("3 is left", 1, () -> x.found());
        Check.due("another than what is left", 0, () -> x.equal(4));
        Check.due("it is it", -1, () -> x.equal(3));
        Queryschool y = of(1, 2, 3);
        y.teach('a', 0, 0);
        y.ask(0);
        Check.due("2 has a conflict", 1, () -> y.conflicts(1));
        Check.due("of those alive one differs", 1, () -> y.equal(1));
        Check.due("2 does not agree there", 1, () -> y.conflicts(1));
        Check.due("3 is the only one", -1, () -> y.equal(3));
        Check.due("2 is dead for good, though it was not alive", -1, () -> y.conflicts(1));
        Queryschool z = of(0, 8);
        z.teach('a', 0, 0);
        z.ask(3);
        Check.due("alive or not, dead for good", 3, () -> z.equal(0));
        Check.due("0 was not alive", -1, () -> z.conflicts(0));
        Check.due("one answer more", 2, () -> z.answers());
    }

    private static void promise9Wrong() {
        Queryschool x = of(0, 1);
        Check.argument("other points, no teacher", () -> x.equal(16));
        Check.unsupported("no teacher", () -> x.equal(0));
        x.teach('h', 0, 0);
        Check.argument("equal(16)", () -> x.equal(16));
        Check.argument("equal(-1)", () -> x.equal(-1));
        Check.argument("equal(least)", () -> x.equal(Integer.MIN_VALUE));
        for (int i = 0; i < 40; i++) {
            x.ask(3);
        }
        Check.illegalState("the forty-first", () -> x.equal(0));
        Check.argument("other points come first", () -> x.equal(16));
        Check.due("nothing died", 2, () -> x.alive());
    }

    private static void promise10() {
        Queryschool x = of(0, 1, 3, 7);
        Check.due("none", 0, () -> x.answers());
        x.teach('h', 3, 0);
        x.ask(0);
        x.equal(0);
        Check.due("a question and an equality", 2, () -> x.answers());
        x.learn();
        Check.due("learning asks", 4, () -> x.answers());
        Check.argument("a wrong call", () -> x.ask(7));
        Check.due("is no answer", 4, () -> x.answers());
    }

    private static void promise11And12And13() {
        Queryschool x = of(0, 1, 3);
        Check.due("no teacher, no conflicts", 0, () -> x.conflicts(2));
        Check.due("no teacher, alive", true, () -> x.isAlive(2));
        Check.due("no teacher, all alive", 3, () -> x.alive());
        Check.index("conflicts(3)", () -> x.conflicts(3));
        Check.index("conflicts(-1)", () -> x.conflicts(-1));
        Check.index("isAlive(3)", () -> x.isAlive(3));
        Check.index("isAlive(-1)", () -> x.isAlive(-1));
        Check.index("isAlive(greatest)", () -> x.isAlive(Integer.MAX_VALUE));
        Check.due("none in an empty school", 0, () -> new Queryschool().alive());
        x.teach('l', 0, 1);
        x.seed(1);
        Check.due("no lie yet", false, () -> x.ask(0));
        Check.due("one against 1", 1, () -> x.conflicts(1));
        Check.due("a conflict within the budget", true, () -> x.isAlive(1));
        Check.due("all alive", 3, () -> x.alive());
        Check.due("the lie", true, () -> x.ask(0));
        Check.due("one against 0", 1, () -> x.conflicts(0));
        Check.due("all alive still", 3, () -> x.alive());
        Check.due("no lie more", false, () -> x.ask(0));
        Check.due("two against 1", 2, () -> x.conflicts(1));
        Check.due("more than the budget", false, () -> x.isAlive(1));
        Check.due("0 alone", 1, () -> x.alive());
        x.equal(0);
        Check.due("dead for good", -1, () -> x.conflicts(2));
        Check.due("dead for good is not alive", false, () -> x.isAlive(2));
    }

    private static void promise14() {
        Queryschool none = new Queryschool();
        Check.due("none alive, none sure", '?', () -> none.sure(0));
        Queryschool x = of(1, 3, 7);
        Check.due("all have 0", '+', () -> x.sure(0));
        Check.due("some have 1", '?', () -> x.sure(1));
        Check.due("none has 3", '-', () -> x.sure(3));
        Check.argument("sure(4)", () -> x.sure(4));
        Check.argument("sure(-1)", () -> x.sure(-1));
        x.teach('h', 1, 0);
        x.ask(2);
        Check.due("what is alive counts alone", '-', () -> x.sure(2));
        x.ask(1);
        Check.due("what is alive counts alone", '+', () -> x.sure(1));
    }

    private static void promise15() {
        Queryschool x = new Queryschool();
        Check.noElement("none alive", () -> x.best());
        x.concept(8);
        Check.noElement("one alive", () -> x.best());
        x.concept(0);
        Check.due("the only one that splits", 3, () -> x.best());
        x.concept(4);
        x.concept(12);
        Check.due("two against two at 2 and 3", 2, () -> x.best());
        x.concept(13);
        Check.due("two against three at 2 and 3", 2, () -> x.best());
        x.concept(7);
        Check.due("two and four, three and three", 3, () -> x.best());
        x.teach('h', 1, 0);
        x.ask(3);
        Check.due("what is alive counts alone", 0, () -> x.best());
        x.equal(8);
        Check.due("no death here", 3, () -> x.alive());
        x.equal(0);
        Check.noElement("one left", () -> x.best());
    }

    private static void promise16() {
        Queryschool x = of(0, 1, 3, 7, 15);
        Check.unsupported("no teacher", () -> x.learn());
        x.teach('h', 1, 0);
        Check.due("halving", 2, () -> x.learn());
        Check.due("found", 1, () -> x.found());
        Check.due("nothing more to ask", 0, () -> x.learn());
        Check.due("two answers", 2, () -> x.answers());
        x.teach('a', 0, 0);
        Check.due("a keeper makes it long", 3, () -> x.learn());
        Queryschool one = of(5);
        one.teach('h', 0, 0);
        Check.due("one concept needs no question", 0, () -> one.learn());
    }

    private static void promise16Ends() {
        Queryschool x = of(0, 8);
        x.teach('l', 1, 0);
        for (int i = 0; i < 40; i++) {
            x.ask(0);
        }
        Check.due("no answers are left", 0, () -> x.learn());
        Check.due("two are alive still", 2, () -> x.alive());
        Queryschool y = of(0, 8);
        y.teach('l', 1, 2);
        y.seed(1);
        for (int i = 0; i < 39; i++) {
            y.ask(0);
        }
        Check.due("one answer is left", 1, () -> y.learn());
        Check.due("forty", 40, () -> y.answers());
        Queryschool z = of(0, 8);
        z.teach('l', 1, 2);
        z.seed(1);
        Check.due("the liar's concept needs three more than its lies", true, () -> {
            int asked = z.learn();
            return asked >= 3 && asked <= 5 && z.found() == 1;
        });
    }

    private static void promise17() {
        Queryschool x = new Queryschool();
        Check.noElement("none", () -> x.found());
        x.concept(4);
        Check.due("one without a teacher", 0, () -> x.found());
        x.concept(5);
        Check.noElement("two", () -> x.found());
        x.teach('h', 1, 0);
        x.ask(0);
        Check.due("the one that is left", 1, () -> x.found());
    }
}
