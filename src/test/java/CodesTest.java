/** Promises 36 to 43: secret, guess, possible, nextCode, things, ahead, orders, pair. */
public final class CodesTest {
    public static void main(String[] args) {
        promise36();
        promise37();
        promise37Ends();
        promise38And39();
        promise40();
        promise41();
        promise42();
        promise43();
        Check.done("CodesTest");
    }

    private static void promise36() {
        Queryschool x = new Queryschool();
        Check.due("0 is the secret at first", 30, () -> x.guess(0));
        x.guess(11);
        Check.due("two hints before", 2, () -> x.secret(333));
        Check.due("none now", 0, () -> x.secret(30));
        for (int code : new int[] {-1, 4, 14, 40, 41, 134, 140, 334, 340, 400, 1000, Integer.MAX_VALUE,
            Integer.MIN_VALUE}) {
            Check.argument("secret(" + code + ")", () -> x.secret(code));
        }
        x.guess(0);
        Check.argument("a wrong one", () -> x.secret(5));
        Check.due("the secret is as it was", 30, () -> x.guess(30));
        Check.due("and the hints", 2, () -> x.secret(0));
        Check.due("all codes again", 64, () -> x.possible());
    }

    private static void promise37() {
        int[][] rows = {
            {123, 321, 12}, {123, 123, 30}, {123, 0, 0}, {123, 231, 3}, {123, 132, 12}, {123, 111, 10},
            {112, 211, 12}, {112, 121, 12}, {112, 221, 2}, {100, 1, 12}, {1, 10, 12}, {22, 220, 12},
            {3, 300, 12}, {333, 333, 30}, {330, 33, 12}, {12, 201, 3}, {122, 211, 2}, {113, 331, 2}
        };
        for (int[] row : rows) {
            Queryschool x = new Queryschool();
            x.secret(row[0]);
            Check.due("secret " + row[0] + ", guess " + row[1], row[2], () -> x.guess(row[1]));
        }
        Queryschool x = new Queryschool();
        for (int code : new int[] {-1, 4, 40, 334, 400, Integer.MIN_VALUE, Integer.MAX_VALUE}) {
            Check.argument("guess(" + code + ")", () -> x.guess(code));
        }
        Check.due("no hint was given", 0, () -> x.secret(1));
    }

    private static void promise37Ends() {
        Queryschool x = new Queryschool();
        for (int i = 0; i < 20; i++) {
            Check.due("hint " + i, 0, () -> x.guess(111));
        }
        Check.illegalState("a hint too much", () -> x.guess(222));
        Check.argument("no code comes first", () -> x.guess(4));
        Check.due("nothing changed", 27, () -> x.possible());
        Check.due("twenty", 20, () -> x.secret(0));
        Check.due("anew", 0, () -> x.guess(111));
    }

    private static void promise38And39() {
        Queryschool x = new Queryschool();
        Check.due("all", 64, () -> x.possible());
        Check.due("the least of all", 0, () -> x.nextCode());
        x.secret(312);
        x.guess(0);
        Check.due("no 0", 27, () -> x.possible());
        Check.due("no 0", 111, () -> x.nextCode());
        x.guess(123);
        Check.due("the same three at other places", 2, () -> x.possible());
        Check.due("the least", 231, () -> x.nextCode());
        x.guess(231);
        Check.due("the secret", 1, () -> x.possible());
        Check.due("the secret", 312, () -> x.nextCode());
        x.secret(312);
        Check.due("all again", 64, () -> x.possible());
        Queryschool y = new Queryschool();
        y.secret(300);
        y.guess(330);
        Check.due("two at their places, or one and two others", 300, () -> {
            y.guess(133);
            return y.guess(300) == 30 ? y.nextCode() : -1;
        });
    }

    private static void promise40() {
        Queryschool x = new Queryschool();
        Check.argument("things(1)", () -> x.things(1));
        Check.argument("things(6)", () -> x.things(6));
        Check.argument("things(-1)", () -> x.things(-1));
        Check.due("three at first", 3, () -> x.things(5));
        x.ahead(4, 3);
        Check.argument("a wrong one", () -> x.things(0));
        Check.due("nothing changed", 60, () -> x.orders());
        Check.due("five before", 5, () -> x.things(2));
        Check.due("told anew", 2, () -> x.orders());
        Check.argument("two things alone", () -> x.ahead(2, 0));
        x.ahead(0, 1);
        Check.due("two before", 2, () -> x.things(2));
        Check.due("nothing is told then", 2, () -> x.orders());
        for (int last = 0; last < 5; last++) {
            Queryschool y = new Queryschool();
            y.things(5);
            y.ahead((last + 1) % 5, last);
            y.things(5);
            Check.due("nothing is ahead of " + last + " then", 120, () -> y.orders());
        }
    }

    private static void promise41() {
        Queryschool x = new Queryschool();
        x.things(4);
        Check.argument("ahead(0, 4)", () -> x.ahead(0, 4));
        Check.argument("ahead(4, 0)", () -> x.ahead(4, 0));
        Check.argument("ahead(-1, 0)", () -> x.ahead(-1, 0));
        Check.argument("ahead(0, -1)", () -> x.ahead(0, -1));
        Check.argument("the same", () -> x.ahead(2, 2));
        Check.due("half", 12, () -> x.ahead(2, 0));
        Check.due("told twice", 12, () -> x.ahead(2, 0));
        Check.unsupported("the other way", () -> x.ahead(0, 2));
        Check.due("a chain", 4, () -> x.ahead(0, 3));
        Check.unsupported("round a chain", () -> x.ahead(3, 2));
        Check.due("nothing changed", 4, () -> x.orders());
        Check.due("told by the chain", 4, () -> x.ahead(2, 3));
        Check.due("the last", 1, () -> x.ahead(3, 1));
        Check.unsupported("the other way", () -> x.ahead(1, 2));
        Check.due("one", 1, () -> x.orders());
    }

    private static void promise42() {
        int[] all = {2, 6, 24, 120};
        Queryschool x = new Queryschool();
        Check.due("three at first", 6, () -> x.orders());
        for (int many = 2; many <= 5; many++) {
            x.things(many);
            Check.due(many + " things", all[many - 2], () -> x.orders());
        }
        x.ahead(0, 1);
        x.ahead(2, 3);
        Check.due("two pairs", 30, () -> x.orders());
        x.ahead(1, 4);
        x.ahead(3, 4);
        Check.due("4 is last", 6, () -> x.orders());
    }

    private static void promise43() {
        Queryschool x = new Queryschool();
        Check.due("the lowest of like ones", 1, () -> x.pair());
        x.ahead(0, 1);
        Check.due("one to two", 2, () -> x.pair());
        x.ahead(0, 2);
        Check.due("what is not told", 12, () -> x.pair());
        x.ahead(2, 1);
        Check.noElement("one order alone", () -> x.pair());
        x.things(4);
        x.ahead(3, 2);
        Check.due("half, ahead of others", 1, () -> x.pair());
        x.ahead(2, 0);
        Check.due("1 stands at two of four", 12, () -> x.pair());
    }
}
