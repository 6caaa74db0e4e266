/** The boundary cases of promises 36 to 43, and of what 'Terms' says of codes and orders. */
final class BoundsOfCodes {
    private static final int[] NO_CODES = {
        Integer.MIN_VALUE, -333, -111, -1, 4, 9, 14, 34, 40, 41, 43, 90, 104, 134, 140, 199, 304, 334, 340, 343,
        399, 400, 433, 999, 1000, 1333, Integer.MAX_VALUE
    };

    private BoundsOfCodes() {
    }

    static void run() {
        codes();
        orders();
    }

    private static void codes() {
        promise36ThreeDigits();
        promise36ZeroAtFirst();
        promise36NoHintsThen();
        promise36NoCode();
        promise37OnceEach();
        promise37Likewise();
        promise37NoCode();
        promise37TwentyHints();
        promise38SinceTold();
        promise39Least();
    }

    private static void orders() {
        promise40TwoToFive();
        promise40ThreeAtFirst();
        promise40OutOfRange();
        promise41NoSuchThing();
        promise41NoneLeft();
        promise42ByWhatWasTold();
        promise43LowestFirst();
        promise43TenTimes();
        promise43OneAlone();
    }

    private static Queryschool hidden(int secret) {
        Queryschool x = new Queryschool();
        x.secret(secret);
        return x;
    }

    private static void promise36ThreeDigits() {
        Doc.says(36, "- `code`: the code, its digits as a number of three digits, 0 to 333");
        Queryschool x = new Queryschool();
        for (int code = 0; code <= 333; code++) {
            int own = code;
            if (code % 10 < 4 && code / 10 % 10 < 4) {
                Check.due("the code " + own, 1, () -> {
                    x.secret(own);
                    int hint = x.guess(own);
                    return hint == 30 ? x.secret(own) : -1;
                });
            }
        }
    }

    private static void promise36ZeroAtFirst() {
        Doc.says(36, "A code has three digits, 0 to 3 each; the secret is 0 at first.");
        Check.due("all three are 0", 30, () -> new Queryschool().guess(0));
        Check.due("no 3 in it", 0, () -> new Queryschool().guess(333));
        Check.due("one 0 alone is right", 10, () -> new Queryschool().guess(330));
    }

    private static void promise36NoHintsThen() {
        Doc.says(36, "Tells the secret; no hints were given then.");
        Queryschool x = new Queryschool();
        Check.due("none before", 0, () -> x.secret(333));
        x.guess(333);
        x.guess(0);
        Check.due("two before", 2, () -> x.secret(333));
        Check.due("none then, though it is the same", 0, () -> x.secret(333));
        Check.due("all codes are possible", 64, () -> x.possible());
        for (int i = 0; i < 20; i++) {
            x.guess(i % 4);
        }
        Check.due("20 before", 20, () -> x.secret(1));
        Check.due("hints can be given", 30, () -> x.guess(1));
    }

    private static void promise36NoCode() {
        Doc.says(36, "Throws `IllegalArgumentException` if it is no code");
        Queryschool x = hidden(123);
        x.guess(123);
        for (int code : NO_CODES) {
            Check.argument("secret(" + code + ")", () -> x.secret(code));
        }
        Check.due("one is possible still", 1, () -> x.possible());
        Check.due("one hint still", 1, () -> x.secret(0));
    }

    private static void promise37OnceEach() {
        Doc.says(37, "A guess has 10 for each digit that is right at its place, and 1 for each other one that is "
                + "right at another place, each digit of both counting once.");
        int[][] rows = {
            {0, 333, 0}, {333, 333, 30}, {1, 0, 20}, {123, 231, 3}, {123, 321, 12}, {123, 222, 10}, {122, 221, 12},
            {122, 211, 2}, {112, 331, 1}, {331, 112, 1}, {110, 1, 2}, {1, 110, 2}, {101, 10, 2}, {110, 11, 12},
            {3, 30, 12}, {300, 3, 12}, {12, 120, 3}, {100, 111, 10}, {111, 100, 10}, {233, 323, 12}, {332, 322, 20}
        };
        for (int[] row : rows) {
            Check.due(row[0] + " guessed as " + row[1], row[2], () -> hidden(row[0]).guess(row[1]));
        }
    }

    private static void promise37Likewise() {
        Doc.says(37, "- `code`: the code, likewise");
        Check.due("the least", 30, () -> hidden(0).guess(0));
        Check.due("the greatest", 30, () -> hidden(333).guess(333));
        Check.argument("one below the least", () -> hidden(0).guess(-1));
        Check.argument("one above the greatest", () -> hidden(333).guess(334));
        Check.argument("a digit too great between", () -> hidden(333).guess(143));
    }

    private static void promise37NoCode() {
        Doc.says(37, "Throws `IllegalArgumentException` if it is no code");
        Queryschool x = hidden(123);
        for (int code : NO_CODES) {
            Check.argument("guess(" + code + ")", () -> x.guess(code));
        }
        Check.due("all are possible still", 64, () -> x.possible());
        Check.due("no hints", 0, () -> x.secret(0));
    }

    private static void promise37TwentyHints() {
        Doc.says(37, "Throws `IllegalStateException` if 20 hints were given");
        Queryschool x = hidden(0);
        for (int i = 0; i < 19; i++) {
            x.guess(333);
        }
        Check.due("the twentieth", 0, () -> x.guess(222));
        Check.illegalState("one more", () -> x.guess(111));
        Check.due("it says nothing: 0 and 1 are left", 8, () -> x.possible());
        Check.due("20 still", 20, () -> x.secret(0));
        Check.due("told anew", 30, () -> x.guess(0));
    }

    private static void promise38SinceTold() {
        Doc.says(38, "Possible codes are those that would have had all hints that were given since the secret was "
                + "told.");
        Queryschool x = new Queryschool();
        Check.due("no hints, all", 64, () -> x.possible());
        x.guess(333);
        Check.due("no 3", 27, () -> x.possible());
        x.guess(222);
        Check.due("no 2 either", 8, () -> x.possible());
        x.guess(111);
        Check.due("the secret alone", 1, () -> x.possible());
        x.secret(333);
        Check.due("told anew, all", 64, () -> x.possible());
        x.guess(333);
        Check.due("at once", 1, () -> x.possible());
        Queryschool two = hidden(12);
        two.guess(120);
        Check.due("both turns", 2, () -> two.possible());
    }

    private static void promise39Least() {
        Doc.says(39, "Returns the least code that is possible.");
        Queryschool x = new Queryschool();
        Check.due("the least of all", 0, () -> x.nextCode());
        x.secret(333);
        Check.due("the least of all, not the secret", 0, () -> x.nextCode());
        x.guess(0);
        Check.due("without 0", 111, () -> x.nextCode());
        x.guess(111);
        Check.due("without 1", 222, () -> x.nextCode());
        x.guess(222);
        Check.due("the greatest", 333, () -> x.nextCode());
        Queryschool digits = hidden(310);
        digits.guess(310);
        Check.due("its digits as a number", 310, () -> digits.nextCode());
        Queryschool turned = hidden(120);
        turned.guess(12);
        Check.due("the lower of both turns", 120, () -> turned.nextCode());
        Queryschool low = hidden(3);
        low.guess(3);
        Check.due("no digits ahead", 3, () -> low.nextCode());
    }

    private static void promise40TwoToFive() {
        Doc.says(40, "- `many`: how many, 2 to 5");
        Queryschool x = new Queryschool();
        Check.due("the fewest", 3, () -> x.things(2));
        Check.due("two orders", 2, () -> x.orders());
        Check.argument("one too few", () -> x.things(1));
        Check.due("the most", 2, () -> x.things(5));
        Check.due("120 orders", 120, () -> x.orders());
        Check.argument("one too many", () -> x.things(6));
        Check.due("the last of five", 60, () -> x.ahead(4, 0));
    }

    private static void promise40ThreeAtFirst() {
        Doc.says(40, "Of 2 to 5 things, 3 at first, some are told to be ahead of others; told anew, nothing is.");
        Queryschool x = new Queryschool();
        Check.due("three at first", 6, () -> x.orders());
        Check.due("the last of three", 3, () -> x.ahead(2, 1));
        Check.argument("no fourth", () -> x.ahead(3, 1));
        Check.due("three before", 3, () -> x.things(3));
        Check.due("told anew, nothing is", 6, () -> x.orders());
        Check.due("nor the other way", 3, () -> x.ahead(1, 2));
        x.things(5);
        x.ahead(4, 3);
        x.things(2);
        x.things(5);
        Check.due("nor what only five have", 120, () -> x.orders());
    }

    private static void promise40OutOfRange() {
        Doc.says(40, "Throws `IllegalArgumentException` if a number is out of range");
        Queryschool x = new Queryschool();
        x.ahead(0, 1);
        for (int many : new int[] {Integer.MIN_VALUE, -2, 0, 1, 6, 7, Integer.MAX_VALUE}) {
            Check.argument("things(" + many + ")", () -> x.things(many));
        }
        Check.due("it is told still", 3, () -> x.orders());
        Check.due("three still", 3, () -> x.things(2));
    }

    private static void promise41NoSuchThing() {
        Doc.says(41, "Throws `IllegalArgumentException` if there is no such thing, for either, or both are the same");
        Queryschool x = new Queryschool();
        for (int thing : new int[] {Integer.MIN_VALUE, -1, 3, 4, 5, Integer.MAX_VALUE}) {
            Check.argument("ahead(" + thing + ", 0)", () -> x.ahead(thing, 0));
            Check.argument("ahead(0, " + thing + ")", () -> x.ahead(0, thing));
            Check.argument("ahead(" + thing + ", " + thing + ")", () -> x.ahead(thing, thing));
        }
        for (int thing = 0; thing < 3; thing++) {
            int own = thing;
            Check.argument("the same: " + own, () -> x.ahead(own, own));
        }
        Check.due("nothing was told", 6, () -> x.orders());
        x.things(5);
        Check.argument("one beyond five", () -> x.ahead(5, 0));
        Check.argument("another beyond five", () -> x.ahead(0, 5));
        x.things(2);
        Check.argument("one beyond two", () -> x.ahead(2, 0));
        Check.due("the last of two", 1, () -> x.ahead(1, 0));
    }

    private static void promise41NoneLeft() {
        Doc.says(41, "Throws `UnsupportedOperationException` if no order would be left");
        Queryschool x = new Queryschool();
        x.things(2);
        Check.due("one is left", 1, () -> x.ahead(1, 0));
        Check.unsupported("none would be", () -> x.ahead(0, 1));
        Check.due("told again", 1, () -> x.ahead(1, 0));
        Queryschool ring = new Queryschool();
        ring.things(5);
        for (int thing = 0; thing < 4; thing++) {
            ring.ahead(thing, thing + 1);
        }
        for (int one = 1; one < 5; one++) {
            for (int other = 0; other < one; other++) {
                int back = one;
                int to = other;
                Check.unsupported(back + " ahead of " + to, () -> ring.ahead(back, to));
                Check.due("what follows can be told", 1, () -> ring.ahead(to, back));
            }
        }
        Check.due("one is left still", 1, () -> ring.orders());
    }

    private static void promise42ByWhatWasTold() {
        Doc.says(42, "An order has all things one behind the other, by what was told;");
        int[] all = {2, 6, 24, 120};
        for (int many = 2; many <= 5; many++) {
            Queryschool x = new Queryschool();
            x.things(many);
            Check.due("nothing told of " + many, all[many - 2], () -> x.orders());
            x.ahead(many - 1, 0);
            Check.due("one told of " + many, all[many - 2] / 2, () -> x.orders());
            for (int thing = 1; thing < many - 1; thing++) {
                x.ahead(many - 1, thing);
            }
            Check.due("the last is the first of " + many, all[many - 2] / many, () -> x.orders());
        }
        Queryschool one = new Queryschool();
        one.ahead(2, 1);
        one.ahead(1, 0);
        Check.due("all told", 1, () -> one.orders());
    }

    private static void promise43LowestFirst() {
        Doc.says(43, "the best pair is that, the lower one first, for which the less of both, orders with the one "
                + "ahead, and those with the other one, is greatest, of like ones the lowest first, then the "
                + "lowest second.");
        for (int many = 2; many <= 5; many++) {
            Queryschool x = new Queryschool();
            x.things(many);
            Check.due("all alike of " + many, 1, () -> x.pair());
        }
        Check.due("01 and 02 have one of three: the lowest second", 1, () -> told(3, 12).pair());
        Check.due("01 and 12 have one of three: the lowest first", 1, () -> told(3, 20).pair());
        Check.due("13 and 23 have one of three: the lowest first", 13, () -> told(4, 1, 2, 3, 12).pair());
        Check.due("12, 13 and 23 have three of six", 12, () -> told(4, 1, 2, 3).pair());
        Check.due("02 and 13 have three of six", 2, () -> told(4, 1, 23).pair());
        Check.due("23 has six of twelve, those before it four", 23, () -> told(4, 1).pair());
        Check.due("12 has two of four, the second of three", 12, () -> told(4, 32, 20).pair());
        Check.due("01 and 23 have 20 of 40, 02 has 15", 1, () -> told(5, 40, 41).pair());
        Check.due("23, 24 and 34 have 30 of 60", 23, () -> told(5, 10).pair());
        Check.due("the last two alone are open", 34, () -> told(5, 1, 12, 23, 24).pair());
    }

    /** So many things, and pairs told, each as 10 times the one ahead and the other. */
    private static Queryschool told(int many, int... pairs) {
        Queryschool x = new Queryschool();
        x.things(many);
        for (int pair : pairs) {
            x.ahead(pair / 10, pair % 10);
        }
        return x;
    }

    private static void promise43TenTimes() {
        Doc.says(43, "Returns 10 times the one and the other.");
        Check.due("0 and 1, ten times 0", 1, () -> told(2).pair());
        Check.due("3 and 4, the greatest", 34, () -> told(5, 1, 12, 23, 24).pair());
    }

    private static void promise43OneAlone() {
        Doc.says(43, "Throws `NoSuchElementException` if there is one order alone");
        Queryschool x = new Queryschool();
        x.things(2);
        Check.due("two", 1, () -> x.pair());
        x.ahead(1, 0);
        Check.noElement("one", () -> x.pair());
        x.things(3);
        x.ahead(0, 1);
        x.ahead(0, 2);
        Check.due("two of three", 12, () -> x.pair());
        x.ahead(2, 1);
        Check.noElement("one of three", () -> x.pair());
    }
}
