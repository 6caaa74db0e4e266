/** The boundary cases of promises 24 to 27, and of what 'Terms' says of experts. */
final class BoundsOfExperts {
    private BoundsOfExperts() {
    }

    static void run() {
        promise24OneToSix();
        promise24NoneAtFirst();
        promise24ToldAnew();
        promise24OutOfRange();
        promise25LikeOnesIn();
        promise25OneAtLeast();
        promise25BitsOfOthers();
        promise25NoExperts();
        promise26NoSuchExpert();
        promise27BelowZero();
        promise27SinceTold();
        promise27NoExperts();
    }

    private static Queryschool of(int many) {
        Queryschool x = new Queryschool();
        x.experts(many);
        return x;
    }

    private static void rounds(Queryschool x, int says, boolean isIn, int times) {
        for (int i = 0; i < times; i++) {
            x.round(says, isIn);
        }
    }

    private static void promise24OneToSix() {
        Doc.says(24, "- `many`: how many, 1 to 6");
        Queryschool x = new Queryschool();
        Check.due("the fewest", 0, () -> x.experts(1));
        Check.due("the only one", 1024, () -> x.weight(0));
        Check.argument("one too few", () -> x.experts(0));
        Check.due("the most", 1, () -> x.experts(6));
        Check.due("the last of six", 1024, () -> x.weight(5));
        Check.argument("one too many", () -> x.experts(7));
        Check.due("six still", 6, () -> x.experts(6));
    }

    private static void promise24NoneAtFirst() {
        Doc.says(24, "Returns how many there were, 0 at first.");
        Queryschool x = new Queryschool();
        Check.due("none at first", 0, () -> x.experts(4));
        Check.due("four", 4, () -> x.experts(4));
        x.points(2);
        Check.due("points told anew change nothing", 4, () -> x.experts(1));
    }

    private static void promise24ToldAnew() {
        Doc.says(24, "At most 6 are numbered from 0, each with the weight 1024 and no mistakes, all told anew.");
        Queryschool x = of(6);
        rounds(x, 0, true, 3);
        Check.due("the last of six has an eighth", 128, () -> x.weight(5));
        x.experts(6);
        for (int expert = 0; expert < 6; expert++) {
            int own = expert;
            Check.due("the weight anew: " + own, 1024, () -> x.weight(own));
        }
        x.round(0, false);
        Check.due("no mistakes of the crowd", 0, () -> x.regret());
        x.experts(2);
        rounds(x, 1, true, 2);
        x.experts(2);
        rounds(x, 2, true, 1);
        Check.due("no mistakes of theirs: like ones said in", 0, () -> x.regret());
        rounds(x, 0, true, 1);
        Check.due("the crowd has one, the better one has one", 0, () -> x.regret());
    }

    private static void promise24OutOfRange() {
        Doc.says(24, "Throws `IllegalArgumentException` if a number is out of range");
        Queryschool x = of(2);
        x.round(1, true);
        for (int many : new int[] {Integer.MIN_VALUE, -1, 0, 7, 8, Integer.MAX_VALUE}) {
            Check.argument("experts(" + many + ")", () -> x.experts(many));
        }
        Check.due("the weight is as it was", 512, () -> x.weight(1));
        Check.due("two still", 2, () -> x.experts(1));
    }

    private static void promise25LikeOnesIn() {
        Doc.says(25, "the crowd says that of which the weights are more, of like ones in;");
        Check.due("like ones", true, () -> of(2).round(1, false));
        Check.due("like ones, the other", true, () -> of(2).round(2, false));
        Check.due("like ones of six", true, () -> of(6).round(56, false));
        Check.due("one out", false, () -> of(1).round(0, true));
        Check.due("one in", true, () -> of(1).round(1, false));
        Check.due("all of six out", false, () -> of(6).round(0, true));
        Check.due("the last of six alone", false, () -> of(6).round(32, true));
        Queryschool x = of(3);
        x.round(1, true);
        Check.due("1024 in, 512 and 512 out", true, () -> x.round(1, true));
        Check.due("1024 out, 256 and 256 in", false, () -> x.round(6, false));
        Queryschool just = of(3);
        rounds(just, 4, true, 10);
        Check.due("1024 against 1 and 1", true, () -> just.round(4, false));
        rounds(just, 0, true, 10);
        Check.due("1 against 1 and 1", false, () -> just.round(4, true));
        Check.due("1 and 1 against 1", true, () -> just.round(6, true));
    }

    private static void promise25OneAtLeast() {
        Doc.says(25, "then each that was wrong has half of its weight, 1 at least, and a mistake more, "
                + "as the crowd has.");
        Queryschool x = of(2);
        for (int weight = 512; weight >= 1; weight /= 2) {
            int half = weight;
            x.round(2, true);
            Check.due("half of " + 2 * half, half, () -> x.weight(0));
            Check.due("it was right", 1024, () -> x.weight(1));
        }
        x.round(2, true);
        Check.due("half of 1", 1, () -> x.weight(0));
        rounds(x, 2, true, 100);
        Check.due("and so on", 1, () -> x.weight(0));
        Queryschool one = of(1);
        one.round(1, true);
        Check.due("in and right", 1024, () -> one.weight(0));
        one.round(0, false);
        Check.due("out and right", 1024, () -> one.weight(0));
        one.round(0, true);
        Check.due("out and wrong", 512, () -> one.weight(0));
        one.round(1, false);
        Check.due("in and wrong", 256, () -> one.weight(0));
    }

    private static void promise25BitsOfOthers() {
        Doc.says(25, "Throws `IllegalArgumentException` if there are bits of others");
        for (int many = 1; many <= 6; many++) {
            Queryschool x = of(many);
            int all = (1 << many) - 1;
            Check.argument("one more than " + many, () -> x.round(all + 1, true));
            Check.argument("all and one more than " + many, () -> x.round(2 * all + 1, true));
            Check.argument("all bits there are", () -> x.round(-1, true));
            Check.argument("the least number", () -> x.round(Integer.MIN_VALUE, false));
            Check.argument("the greatest number", () -> x.round(Integer.MAX_VALUE, false));
            Check.due("no weight is less", 1024, () -> x.weight(0));
            Check.due("all of " + many, true, () -> x.round(all, true));
        }
        Queryschool fewer = of(6);
        fewer.experts(2);
        Check.argument("one of those before", () -> fewer.round(4, true));
    }

    private static void promise25NoExperts() {
        Doc.says(25, "Throws `UnsupportedOperationException` if there are none");
        Queryschool x = new Queryschool();
        Check.unsupported("none says anything", () -> x.round(0, true));
        Check.unsupported("none says anything", () -> x.round(0, false));
        Check.argument("what is listed first", () -> x.round(1, true));
        x.experts(1);
        Check.due("the crowd has no mistake", 0, () -> x.regret());
        Check.due("one is enough", false, () -> x.round(0, true));
    }

    private static void promise26NoSuchExpert() {
        Doc.says(26, "Throws `IndexOutOfBoundsException` if there is no such expert");
        Check.index("none at first", () -> new Queryschool().weight(0));
        for (int many = 1; many <= 6; many++) {
            Queryschool x = of(many);
            int last = many - 1;
            Check.due("the last of " + many, 1024, () -> x.weight(last));
            Check.index("one beyond " + many, () -> x.weight(last + 1));
        }
        for (int expert : new int[] {Integer.MIN_VALUE, -1, 6, Integer.MAX_VALUE}) {
            Check.index("weight(" + expert + ")", () -> of(6).weight(expert));
        }
        Queryschool fewer = of(6);
        fewer.experts(2);
        Check.index("one of those before", () -> fewer.weight(2));
    }

    private static void promise27BelowZero() {
        Doc.says(27, "Returns the difference, perhaps below 0.");
        Queryschool x = of(3);
        Check.due("no rounds", 0, () -> x.regret());
        x.round(6, true);
        x.round(5, true);
        x.round(3, true);
        Check.due("each has one, the crowd none", -1, () -> x.regret());
        x.round(6, true);
        x.round(5, true);
        x.round(3, true);
        Check.due("each has two, the crowd none", -2, () -> x.regret());
        Queryschool y = of(2);
        rounds(y, 1, false, 1);
        Check.due("the crowd has one, the second none", 1, () -> y.regret());
        Queryschool last = of(6);
        last.round(32, true);
        last.round(32, true);
        Check.due("the last of six has none", 2, () -> last.regret());
    }

    private static void promise27SinceTold() {
        Doc.says(27, "The regret is the mistakes of the crowd less the least ones of an expert, "
                + "in the rounds since they were told.");
        Queryschool x = of(3);
        rounds(x, 3, false, 3);
        Check.due("one was right each time: twice the crowd was not", 2, () -> x.regret());
        x.experts(3);
        Check.due("none since", 0, () -> x.regret());
        x.round(0, true);
        Check.due("all have one since", 0, () -> x.regret());
        Queryschool long400 = of(2);
        rounds(long400, 0, true, 400);
        rounds(long400, 3, false, 100);
        Check.due("500 each", 0, () -> long400.regret());
    }

    private static void promise27NoExperts() {
        Doc.says(27, "Throws `UnsupportedOperationException` if there are no experts");
        Queryschool x = new Queryschool();
        Check.unsupported("none at first", () -> x.regret());
        x.experts(1);
        Check.due("one is enough", 0, () -> x.regret());
    }
}
