/** The boundary cases of promises 6 to 11, and of what 'Terms' says of the teacher and of equality. */
final class BoundsOfTeachers {
    /** From here the first draw is 2147435376, a lie; a product of ints would not be. */
    private static final int LYING_SEED = 2147483646;

    private BoundsOfTeachers() {
    }

    static void run() {
        teaching();
        asking();
        comparing();
    }

    private static void teaching() {
        promise6NoHiddenForA();
        promise6BudgetForLAlone();
        promise6ToldAnew();
        promise6AddedUnderTeacher();
        promise6KindOrBudget();
        promise6NoSuchConcept();
        promise6NoConcepts();
        promise7Range();
        promise7OutOfRange();
    }

    private static void asking() {
        promise8Honest();
        promise8AtFirst();
        promise8WrapsAround();
        promise8LessThanBudget();
        promise8Keeping();
        promise8Conflicts();
        promise8Alive();
        promise8NoSuchPoint();
        promise8NoTeacher();
        promise8Forty();
    }

    private static void comparing() {
        promise9NeverLies();
        promise9Lowest();
        promise9KeepingLowest();
        promise9KeepingAliveOrNot();
        promise9KeepingIsIt();
        promise9IsIt();
        promise9Counter();
        promise9OtherPoints();
        promise9NoTeacher();
        promise9Forty();
        promise10AtMost();
        promise11DeadForGood();
        promise11NoSuchConcept();
    }

    private static void promise6NoHiddenForA() {
        Doc.says(6, "which has no meaning for 'a'");
        for (int concept : new int[] {Integer.MIN_VALUE, -1, 0, 2, 3, 24, Integer.MAX_VALUE}) {
            Queryschool x = School.of(2, 0, 1, 3);
            Check.due("teach('a', " + concept + ", 0)", false, () -> x.teach('a', concept, 0));
            Check.due("what most have not", false, () -> x.ask(1));
            Check.due("of like ones in", true, () -> x.ask(0));
            Check.due("this one is kept", 1, () -> x.found());
            Check.due("it is sound", true, () -> x.isSound());
        }
    }

    private static void promise6BudgetForLAlone() {
        Doc.says(6, "a budget, 0 to 2, which has a meaning for 'l' alone, and is 0 otherwise");
        for (int budget : new int[] {Integer.MIN_VALUE, -1, 0, 1, 2, 3, Integer.MAX_VALUE}) {
            Queryschool x = School.taught('h', 0, budget, 2, 0, 1);
            x.seed(LYING_SEED);
            Check.due("'h' does not lie by " + budget, false, () -> x.ask(0));
            Check.due("one conflict is enough by " + budget, false, () -> x.isAlive(1));
            x.teach('a', 0, budget);
            x.ask(0);
            Check.due("so is it for 'a' by " + budget, 1, () -> x.alive());
        }
        Queryschool y = School.taught('l', 0, 2, 2, 0, 1);
        y.teach('h', 0, 2);
        y.ask(0);
        Check.due("what a liar had is gone", 1, () -> y.alive());
        Check.due("the least", true, () -> y.teach('l', 0, 0));
        Check.due("the greatest", true, () -> y.teach('l', 0, 2));
    }

    private static void promise6ToldAnew() {
        Doc.says(6, "Told anew, all answers, conflicts and deaths are gone.");
        Queryschool x = School.taught('h', 2, 0, 3, 0, 1, 3, 7);
        x.ask(2);
        x.equal(0);
        Check.due("conflicts and deaths", "-1 0 0 1", () -> School.conflicts(x, 4));
        Check.argument("not told", () -> x.teach('b', 0, 0));
        Check.due("they are there still", "-1 0 0 1", () -> School.conflicts(x, 4));
        Check.due("told by the same words", true, () -> x.teach('h', 2, 0));
        Check.due("gone", "0 0 0 0", () -> School.conflicts(x, 4));
        Check.due("no answers", 0, () -> x.answers());
        Queryschool full = School.full();
        full.teach('h', 0, 0);
        full.equal(40);
        Check.due("23 are dead", 1, () -> full.alive());
        full.teach('a', 0, 0);
        Check.due("the last of 24, too, is alive", 24, () -> full.alive());
        Queryschool liar = School.taught('l', 0, 1, 1, 0, 1);
        liar.seed(LYING_SEED);
        Check.due("a lie", true, () -> liar.ask(0));
        liar.teach('l', 0, 1);
        liar.seed(LYING_SEED);
        Check.due("its lies are gone, too", true, () -> liar.ask(0));
    }

    private static void promise6AddedUnderTeacher() {
        Doc.says(6, "A concept that is added under a teacher ahead of any answer has no conflicts.");
        Queryschool x = School.taught('l', 0, 2, 2, 0);
        Check.due("by concept", 1, () -> x.concept(2));
        Check.due("by family", 4, () -> x.family('i'));
        Check.due("no conflicts", "0 0 0 0", () -> School.conflicts(x, 4));
        x.equal(3);
        x.teach('h', 3, 0);
        Check.due("nor when told anew", "0 0 0 0", () -> School.conflicts(x, 4));
        Queryschool y = School.taught('h', 0, 0, 3, 0);
        y.concept(5);
        Check.due("it is the teacher's, too", false, () -> y.ask(0));
        Check.due("and has its conflict", "0 1", () -> School.conflicts(y, 2));
    }

    private static void promise6KindOrBudget() {
        Doc.says(6, "Throws `IllegalArgumentException` if there is no such kind, or by 'l' the budget is out of range");
        Queryschool x = School.of(2, 0, 1);
        for (int sign : new int[] {0, '-', 'H', 'L', 'A', 'b', 'g', 'i', 'k', 'm', 't', 360, 65535}) {
            Check.argument("the sign " + sign, () -> x.teach((char) sign, 0, 0));
        }
        for (int budget : new int[] {Integer.MIN_VALUE, -1, 3, Integer.MAX_VALUE}) {
            Check.argument("the budget " + budget, () -> x.teach('l', 0, budget));
        }
        Check.due("no teacher was told", false, () -> x.teach('l', 1, 2));
        Check.argument("no such kind, under a teacher", () -> x.teach('-', 0, 0));
        Check.due("there is one still", true, () -> x.ask(0));
    }

    private static void promise6NoSuchConcept() {
        Doc.says(6, "Throws `IndexOutOfBoundsException` if there is no such concept, but by 'a'");
        Queryschool x = School.of(2, 0, 1);
        for (int concept : new int[] {Integer.MIN_VALUE, -1, 2, 24, Integer.MAX_VALUE}) {
            Check.index("teach('h', " + concept + ", 0)", () -> x.teach('h', concept, 0));
            Check.index("teach('l', " + concept + ", 0)", () -> x.teach('l', concept, 0));
        }
        Check.unsupported("no teacher was told", () -> x.ask(0));
        Check.due("the last one", false, () -> x.teach('h', 1, 0));
        Check.due("but by 'a'", true, () -> x.teach('a', 2, 0));
    }

    private static void promise6NoConcepts() {
        Doc.says(6, "Throws `UnsupportedOperationException` if there are no concepts");
        Queryschool x = new Queryschool();
        Check.unsupported("by 'a'", () -> x.teach('a', 0, 0));
        Check.index("by 'h' what is listed first", () -> x.teach('h', 0, 0));
        Check.unsupported("no teacher was told", () -> x.ask(0));
        x.concept(0);
        Check.due("one is enough", false, () -> x.teach('a', 0, 0));
        x.points(3);
        Check.unsupported("without concepts again", () -> x.teach('a', 0, 0));
    }

    private static void promise7Range() {
        Doc.says(7, "- `z`: z, 1 to 2147483646");
        Queryschool x = new Queryschool();
        Check.due("the greatest; 1 before", 1, () -> x.seed(2147483646));
        Check.due("the least; the greatest before", 2147483646, () -> x.seed(1));
        Check.due("the least before", 1, () -> x.seed(1));
    }

    private static void promise7OutOfRange() {
        Doc.says(7, "Throws `IllegalArgumentException` if a number is out of range");
        Queryschool x = new Queryschool();
        x.seed(77);
        for (int z : new int[] {Integer.MIN_VALUE, -2147483646, -1, 0, Integer.MAX_VALUE}) {
            Check.argument("seed(" + z + ")", () -> x.seed(z));
        }
        Check.due("z is as it was", 77, () -> x.seed(1));
    }

    private static void promise8Honest() {
        Doc.says(8, "A question asks whether a point is in. 'h' tells the truth of the hidden one.");
        Queryschool x = School.taught('h', 1, 0, 6, 62, 33, 0, 63);
        Check.due("the lowest is in", true, () -> x.ask(0));
        Check.due("the next is out", false, () -> x.ask(1));
        Check.due("the last but one is out", false, () -> x.ask(4));
        Check.due("the highest is in", true, () -> x.ask(5));
        x.teach('h', 2, 0);
        Check.due("none has the lowest", false, () -> x.ask(0));
        Check.due("none has the highest", false, () -> x.ask(5));
        x.teach('h', 3, 0);
        Check.due("all have the highest", true, () -> x.ask(5));
        Check.due("nothing was drawn", 1, () -> x.seed(1));
    }

    private static void promise8AtFirst() {
        Doc.says(8, "draws, z, 1 at first, becoming z times 48271 modulo 2147483647, "
                + "and lies if that modulo 3 is 0, else it tells the truth");
        Queryschool x = School.taught('l', 1, 2, 1, 0, 1);
        Check.due("48271 is no multiple of 3: the truth", true, () -> x.ask(0));
        Check.due("it became that", 48271, () -> x.seed(48271));
        Check.due("182605794 is one: a lie", false, () -> x.ask(0));
        Check.due("it became that", 182605794, () -> x.seed(182605794));
        Check.due("1291394886 is one: a lie", false, () -> x.ask(0));
        Check.due("it became that", 1291394886, () -> x.seed(1));
        Queryschool y = School.taught('l', 0, 2, 1, 0, 1);
        y.seed(3);
        Check.due("3 was one, 144813 is one: a lie of the other kind", true, () -> y.ask(0));
        y.seed(2);
        Check.due("96542 leaves 2: the truth", false, () -> y.ask(0));
        Check.due("it became that", 96542, () -> y.seed(1));
    }

    private static void promise8WrapsAround() {
        Doc.says(8, "becoming z times 48271 modulo 2147483647");
        int[][] rows = {
            {2147483646, 2147435376}, {2147483645, 2147387105}, {1073741823, 1073717688}, {44489, 44872},
            {44488, 2147480248}, {1291394886, 1914720637}, {2078669041, 407355683}
        };
        for (int[] row : rows) {
            Queryschool x = School.taught('l', 0, 1, 1, 0, 1);
            x.seed(row[0]);
            Check.due("a lie behind " + row[0], row[1] % 3 == 0, () -> x.ask(0));
            Check.due("behind " + row[0], row[1], () -> x.seed(1));
        }
    }

    private static void promise8LessThanBudget() {
        Doc.says(8, "'l', as long as it told less lies than the budget, draws");
        Queryschool none = School.taught('l', 0, 0, 1, 0, 1);
        none.seed(LYING_SEED);
        Check.due("a budget of 0", false, () -> none.ask(0));
        Check.due("draws nothing", LYING_SEED, () -> none.seed(1));
        Queryschool one = School.taught('l', 0, 1, 1, 0, 1);
        one.seed(LYING_SEED);
        Check.due("the lie of 1", true, () -> one.ask(0));
        one.seed(LYING_SEED);
        Check.due("none more", false, () -> one.ask(0));
        Check.due("draws nothing more", LYING_SEED, () -> one.seed(1));
        Queryschool two = School.taught('l', 0, 2, 1, 0, 1);
        two.seed(LYING_SEED);
        Check.due("the first of 2", true, () -> two.ask(0));
        two.seed(LYING_SEED);
        Check.due("the second of 2", true, () -> two.ask(0));
        two.seed(LYING_SEED);
        Check.due("none more than 2", false, () -> two.ask(0));
        Check.due("draws nothing more than 2", LYING_SEED, () -> two.seed(1));
        Check.due("they are within the budget", true, () -> two.isAlive(0));
    }

    private static void promise8Keeping() {
        Doc.says(8, "'a' gives the answer by which more concepts stay alive, of like ones that it is in.");
        Queryschool x = School.taught('a', 0, 0, 4, 1, 2, 3, 8, 0);
        Check.due("two have it, three have not", false, () -> x.ask(0));
        Check.due("one has it, two have not", false, () -> x.ask(1));
        Check.due("one each: in", true, () -> x.ask(3));
        Check.due("8 is left", 3, () -> x.found());
        Check.due("the last one is kept, out", false, () -> x.ask(2));
        Check.due("the last one is kept, in", true, () -> x.ask(3));
        Check.due("it has no conflicts", "3 3 4 0 2", () -> School.conflicts(x, 5));
        Queryschool dead = School.taught('a', 0, 0, 4, 0, 4, 10, 3, 7);
        Check.due("two have it, three have not", false, () -> dead.ask(0));
        Check.due("one has it, two have not", false, () -> dead.ask(3));
        Check.due("three have it that are not alive, two have not", false, () -> dead.ask(1));
        Check.due("two are kept", 2, () -> dead.alive());
        Queryschool y = School.taught('a', 0, 0, 2, 0, 1, 2, 3);
        Check.due("two each: in", true, () -> y.ask(1));
        Check.due("one each: in", true, () -> y.ask(0));
        Check.due("nothing was drawn", 1, () -> y.seed(1));
    }

    private static void promise8Conflicts() {
        Doc.says(8, "Each concept against which an answer is has a conflict more.");
        Queryschool x = School.taught('h', 0, 0, 2, 0, 1, 2, 3);
        x.ask(0);
        Check.due("those that have it", "0 1 0 1", () -> School.conflicts(x, 4));
        x.ask(0);
        Check.due("alive or not", "0 2 0 2", () -> School.conflicts(x, 4));
        x.equal(2);
        Check.due("dead for good", "0 2 -1 -1", () -> School.conflicts(x, 4));
        x.ask(1);
        Check.due("no conflict more for those", "0 2 -1 -1", () -> School.conflicts(x, 4));
        School.ask(x, 0, 36);
        Check.due("as many as answers", "0 38 -1 -1", () -> School.conflicts(x, 4));
    }

    private static void promise8Alive() {
        Doc.says(8, "Those with no more conflicts than the budget are alive.");
        for (int budget = 0; budget <= 2; budget++) {
            Queryschool x = School.of(1, 0, 1);
            x.teach('l', 0, budget);
            for (int conflicts = 0; conflicts <= 3; conflicts++) {
                boolean isAlive = conflicts <= budget;
                Check.due(conflicts + " by a budget of " + budget, isAlive, () -> x.isAlive(1));
                Check.due("counted, " + conflicts + " by " + budget, isAlive ? 2 : 1, () -> x.alive());
                x.seed(1);
                x.ask(0);
            }
        }
    }

    private static void promise8NoSuchPoint() {
        Doc.says(8, "Throws `IllegalArgumentException` if there is no such point");
        Queryschool x = School.taught('h', 0, 0, 3, 0, 7);
        for (int point : new int[] {Integer.MIN_VALUE, -1, 3, 4, 31, 32, 33, Integer.MAX_VALUE}) {
            Check.argument("ask(" + point + ")", () -> x.ask(point));
        }
        Check.due("no answer", 0, () -> x.answers());
        Check.due("no conflict", "0 0", () -> School.conflicts(x, 2));
    }

    private static void promise8NoTeacher() {
        Doc.says(8, "Throws `UnsupportedOperationException` if no teacher was told");
        Queryschool x = School.of(3, 0, 7);
        Check.unsupported("none yet", () -> x.ask(2));
        Check.due("no answer", 0, () -> x.answers());
        x.teach('a', 0, 0);
        x.points(3);
        x.concept(0);
        Check.unsupported("none any more", () -> x.ask(2));
    }

    private static void promise8Forty() {
        Doc.says(8, "Throws `IllegalStateException` if 40 answers were given");
        Queryschool x = School.taught('l', 0, 2, 1, 0, 1);
        School.ask(x, 0, 39);
        Check.due("the fortieth", false, () -> x.ask(0));
        Check.illegalState("one more", () -> x.ask(0));
        Check.due("40 still", 40, () -> x.answers());
        Check.due("38 were against it still", "2 38", () -> School.conflicts(x, 2));
        Queryschool y = School.taught('a', 0, 0, 1, 0, 1);
        for (int i = 0; i < 40; i++) {
            y.equal(0);
        }
        Check.illegalState("40 equalities", () -> y.ask(0));
        y.teach('a', 0, 0);
        Check.due("told anew", true, () -> y.ask(0));
    }

    private static void promise9NeverLies() {
        Doc.says(9, "Asked whether a set is it, 'h' and 'l' never lie");
        Queryschool x = School.taught('l', 1, 2, 2, 0, 1, 2, 3);
        x.seed(LYING_SEED);
        Check.due("another set", 0, () -> x.equal(2));
        Check.due("it is it", -1, () -> x.equal(1));
        Check.due("nothing was drawn", LYING_SEED, () -> x.seed(LYING_SEED));
        Check.due("no lie was told: one is left", false, () -> x.ask(0));
        x.seed(LYING_SEED);
        Check.due("and one more", false, () -> x.ask(0));
    }

    private static void promise9Counter() {
        Doc.says(9, "Returns the counter, -1 if it is it.");
        Queryschool x = School.taught('h', 0, 0, 6, 0, 63);
        for (int point = 0; point < 6; point++) {
            int own = point;
            Check.due("the counter " + own, own, () -> x.equal(64 - (1 << own)));
        }
        Check.due("none: it is it", -1, () -> x.equal(0));
        x.teach('a', 0, 0);
        Check.due("of like ones the lowest", 0, () -> x.equal(0));
        Check.due("none: all alive are it", -1, () -> x.equal(63));
    }

    private static void promise9IsIt() {
        Doc.says(9, "if it is the hidden one, all concepts but that one are dead for good");
        Queryschool x = School.taught('l', 0, 1, 1, 0, 1);
        x.seed(LYING_SEED);
        x.ask(0);
        Check.due("it is it", -1, () -> x.equal(0));
        Check.due("it keeps its conflict", "1 -1", () -> School.conflicts(x, 2));
        Check.due("and is found", 0, () -> x.found());
        Queryschool y = School.taught('h', 2, 0, 2, 0, 1, 2, 3);
        y.ask(0);
        Check.due("it is it", -1, () -> y.equal(2));
        Check.due("alive or not", "-1 -1 0 -1", () -> School.conflicts(y, 4));
        Check.due("it is it again", -1, () -> y.equal(2));
        Check.due("it is alive still", 2, () -> y.found());
        Queryschool one = School.taught('h', 0, 0, 1, 1);
        Check.due("the only one", -1, () -> one.equal(1));
        Check.due("nothing else dies", 1, () -> one.alive());
    }

    private static void promise9Lowest() {
        Doc.says(9, "otherwise the lowest point at which both differ is the counter, "
                + "and all that agree with the set there are dead for good");
        Queryschool x = School.taught('h', 0, 0, 6, 33, 0, 32, 1, 30);
        Check.due("the highest alone", 5, () -> x.equal(1));
        Check.due("those without it are dead", "0 -1 0 -1 -1", () -> School.conflicts(x, 5));
        Check.due("the lowest and others", 0, () -> x.equal(30));
        Check.due("those without that are dead", "0 -1 -1 -1 -1", () -> School.conflicts(x, 5));
        Queryschool y = School.taught('h', 0, 0, 3, 0, 1, 2, 4);
        Check.due("a set that is no concept", 1, () -> y.equal(6));
        Check.due("which has it", "0 0 -1 0", () -> School.conflicts(y, 4));
        y.ask(2);
        Check.due("dead by conflict", "0 0 -1 1", () -> School.conflicts(y, 4));
        Check.due("all points", 0, () -> y.equal(7));
        Check.due("not 4", "0 -1 -1 1", () -> School.conflicts(y, 4));
        Check.due("4 once more", 2, () -> y.equal(4));
        Check.due("dead for good then", "0 -1 -1 -1", () -> School.conflicts(y, 4));
    }

    private static void promise9KeepingLowest() {
        Doc.says(9, "the counter is the point at which most of those alive differ from it, of like ones the lowest");
        Queryschool x = School.taught('a', 0, 0, 4, 8, 9, 12, 4);
        Check.due("three at 3, two at 2, one at 0", 3, () -> x.equal(0));
        Check.due("4 agrees", "0 0 0 -1", () -> School.conflicts(x, 4));
        Check.due("one at 0 and at 2", 0, () -> x.equal(8));
        Check.due("9 is left", "-1 0 -1 -1", () -> School.conflicts(x, 4));
        Check.due("1, 2 and 3 alike", 1, () -> x.equal(7));
        Check.due("it is left still", 1, () -> x.found());
        Check.due("the highest alone", 3, () -> x.equal(1));
        Queryschool y = School.taught('a', 0, 0, 6, 0, 32);
        Check.due("the set itself counts nothing", 5, () -> y.equal(0));
        Check.due("the other one is left", 1, () -> y.found());
        Queryschool z = School.taught('a', 0, 0, 2, 0, 1, 2, 3);
        Check.due("two at each", 0, () -> z.equal(3));
        Check.due("0 and 2 are left", "0 -1 0 -1", () -> School.conflicts(z, 4));
    }

    private static void promise9KeepingAliveOrNot() {
        Doc.says(9, "and all concepts, alive or not, that agree with it there are dead for good");
        Queryschool x = School.taught('a', 0, 0, 3, 0, 1, 2, 3, 5);
        Check.due("three of five have it", true, () -> x.ask(0));
        Check.due("0 and 2 are not alive", "1 0 1 0 0", () -> School.conflicts(x, 5));
        Check.due("one each at 1 and 2, none alive at 0", 1, () -> x.equal(1));
        Check.due("0 agrees, though not alive", "-1 -1 1 0 -1", () -> School.conflicts(x, 5));
        Check.due("the last one alive differs at 0", 0, () -> x.equal(2));
        Check.due("2 agrees, though not alive", "-1 -1 -1 0 -1", () -> School.conflicts(x, 5));
    }

    private static void promise9KeepingIsIt() {
        Doc.says(9, "else it is it, and all other concepts are dead for good");
        Queryschool x = School.taught('a', 0, 0, 2, 0, 1, 3);
        x.ask(0);
        x.ask(1);
        Check.due("3 is left, others have conflicts", "2 1 0", () -> School.conflicts(x, 3));
        Check.due("it is it", -1, () -> x.equal(3));
        Check.due("others are dead for good", "-1 -1 0", () -> School.conflicts(x, 3));
        Queryschool one = School.taught('a', 0, 0, 2, 0);
        Check.due("the only one", -1, () -> one.equal(0));
        Check.due("is alive", 0, () -> one.found());
        Check.due("is not another set", 0, () -> one.equal(1));
        Check.due("and stays", 0, () -> one.found());
    }

    private static void promise9OtherPoints() {
        Doc.says(9, "Throws `IllegalArgumentException` if it has other points");
        Queryschool x = School.taught('h', 0, 0, 3, 0, 7);
        for (int set : new int[] {8, 9, 16, 1 << 30, Integer.MAX_VALUE, Integer.MIN_VALUE, -8, -1}) {
            Check.argument("equal(" + set + ")", () -> x.equal(set));
        }
        Check.due("no answer", 0, () -> x.answers());
        Check.due("no death", 2, () -> x.alive());
        Check.due("all points", 0, () -> x.equal(7));
    }

    private static void promise9NoTeacher() {
        Doc.says(9, "Throws `UnsupportedOperationException` if no teacher was told");
        Queryschool x = School.of(3, 0, 7);
        Check.unsupported("none yet", () -> x.equal(0));
        Check.due("no death", 2, () -> x.alive());
        x.teach('h', 0, 0);
        x.points(3);
        x.concept(0);
        Check.unsupported("none any more", () -> x.equal(0));
    }

    private static void promise9Forty() {
        Doc.says(9, "Throws `IllegalStateException` if 40 answers were given");
        Queryschool x = School.taught('h', 0, 0, 2, 0, 2);
        School.ask(x, 0, 39);
        Check.due("the fortieth", 0, () -> x.equal(1));
        Check.illegalState("one more", () -> x.equal(0));
        Check.due("no death by it", "0 0", () -> School.conflicts(x, 2));
        Check.due("40 still", 40, () -> x.answers());
    }

    private static void promise10AtMost() {
        Doc.says(10, "each question is an answer, each equality, too, and there are at most 40");
        Queryschool x = School.of(2, 0, 2);
        Check.due("none without a teacher", 0, () -> x.answers());
        x.teach('l', 0, 2);
        Check.due("none ahead of any", 0, () -> x.answers());
        x.equal(3);
        Check.due("an equality", 1, () -> x.answers());
        x.ask(0);
        Check.due("a question", 2, () -> x.answers());
        for (int i = 0; i < 36; i++) {
            x.seed(1);
            x.ask(0);
        }
        x.seed(1);
        Check.due("two are left to learn by", 2, () -> x.learn());
        Check.due("40", 40, () -> x.answers());
        Check.illegalState("no question more", () -> x.ask(0));
        Check.illegalState("no equality more", () -> x.equal(0));
        Check.due("no learning more", 0, () -> x.learn());
        Check.due("40 still", 40, () -> x.answers());
    }

    private static void promise11DeadForGood() {
        Doc.says(11, "Returns their number, -1 if it is dead for good.");
        Queryschool x = School.taught('h', 0, 0, 2, 0, 1, 2, 3);
        School.ask(x, 0, 2);
        Check.due("dead by conflicts alone", 2, () -> x.conflicts(1));
        x.equal(3);
        Check.due("dead for good", -1, () -> x.conflicts(1));
        Check.due("the hidden one", 0, () -> x.conflicts(0));
        x.ask(0);
        Check.due("for good", -1, () -> x.conflicts(1));
        Check.due("without a teacher", 0, () -> School.of(1, 1).conflicts(0));
    }

    private static void promise11NoSuchConcept() {
        Doc.says(11, "Throws `IndexOutOfBoundsException` if there is no such concept");
        Queryschool x = School.of(2, 0, 1);
        Check.due("the last one", 0, () -> x.conflicts(1));
        for (int concept : new int[] {Integer.MIN_VALUE, -1, 2, 23, 24, Integer.MAX_VALUE}) {
            Check.index("conflicts(" + concept + ")", () -> x.conflicts(concept));
        }
        Check.index("none at all", () -> new Queryschool().conflicts(0));
        Queryschool full = School.full();
        Check.due("the last of 24", 0, () -> full.conflicts(23));
        Check.index("one beyond 24", () -> full.conflicts(24));
    }
}
