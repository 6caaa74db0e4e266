/** Promises 24 to 27: experts, round, weight, regret. */
public final class ExpertsTest {
    public static void main(String[] args) {
        promise24();
        promise25();
        promise25Wrong();
        promise26();
        promise27();
        Check.done("ExpertsTest");
    }

    private static Queryschool of(int many) {
        Queryschool x = new Queryschool();
        x.experts(many);
        return x;
    }

    private static void promise24() {
        Queryschool x = new Queryschool();
        Check.argument("experts(0)", () -> x.experts(0));
        Check.argument("experts(7)", () -> x.experts(7));
        Check.argument("experts(-1)", () -> x.experts(-1));
        Check.due("none at first", 0, () -> x.experts(6));
        x.round(0, true);
        x.round(0, true);
        Check.due("six before", 6, () -> x.experts(2));
        Check.argument("a wrong one", () -> x.experts(8));
        Check.due("weights anew", 1024, () -> x.weight(0));
        Check.index("two alone", () -> x.weight(2));
        Check.due("the crowd's mistakes anew", 0, () -> x.regret());
        Check.due("two before", 2, () -> x.experts(1));
        Check.due("one before", 1, () -> x.experts(6));
        Check.due("the sixth anew", 1024, () -> x.weight(5));
    }

    private static void promise25() {
        Queryschool x = of(3);
        Check.due("two of three", true, () -> x.round(3, true));
        Check.due("the wrong one has half", 512, () -> x.weight(2));
        Check.due("the right ones keep it", 1024, () -> x.weight(0));
        Check.due("1024 and 512 against 1024", false, () -> x.round(2, true));
        Check.due("0 has half", 512, () -> x.weight(0));
        Check.due("2 has a quarter", 256, () -> x.weight(2));
        Check.due("weights, not heads", true, () -> x.round(2, false));
        Check.due("1 has half", 512, () -> x.weight(1));
        Queryschool y = of(2);
        Check.due("of like ones in", true, () -> y.round(1, true));
        Check.due("all out", false, () -> y.round(0, false));
        Check.due("all in", true, () -> y.round(3, true));
        Queryschool z = of(2);
        for (int i = 0; i < 9; i++) {
            z.round(0, true);
        }
        z.round(2, true);
        Check.due("down to 1", 1, () -> z.weight(0));
        Check.due("down to 2", 2, () -> z.weight(1));
        Check.due("1 against 2", false, () -> z.round(1, false));
        Check.due("1 against 2, though wrong", 1, () -> z.weight(0));
        Check.due("2 against 1", true, () -> z.round(2, true));
    }

    private static void promise25Wrong() {
        Queryschool x = new Queryschool();
        Check.argument("bits of others without experts", () -> x.round(1, true));
        Check.unsupported("no experts", () -> x.round(0, true));
        x.experts(6);
        Check.due("all six", true, () -> x.round(63, true));
        Check.argument("a seventh", () -> x.round(64, true));
        Check.argument("bits below 0", () -> x.round(-1, true));
        Check.argument("the least number", () -> x.round(Integer.MIN_VALUE, true));
        Check.due("nothing changed", 1024, () -> x.weight(0));
        Check.due("nothing changed", 0, () -> x.regret());
    }

    private static void promise26() {
        Queryschool x = new Queryschool();
        Check.index("none", () -> x.weight(0));
        x.experts(2);
        Check.index("weight(-1)", () -> x.weight(-1));
        Check.index("weight(2)", () -> x.weight(2));
        Check.index("weight(greatest)", () -> x.weight(Integer.MAX_VALUE));
        for (int weight = 1024; weight > 1; weight /= 2) {
            Check.due("halved", weight, () -> x.weight(1));
            x.round(1, true);
        }
        Check.due("1 at least", 1, () -> x.weight(1));
        x.round(1, true);
        Check.due("1 at least", 1, () -> x.weight(1));
        Check.due("always right", 1024, () -> x.weight(0));
    }

    private static void promise27() {
        Queryschool x = new Queryschool();
        Check.unsupported("no experts", () -> x.regret());
        x.experts(3);
        Check.due("none yet", 0, () -> x.regret());
        x.round(3, false);
        Check.due("one that was right", 1, () -> x.regret());
        x.round(7, false);
        Check.due("all wrong", 1, () -> x.regret());
        x.round(0, false);
        Check.due("all right", 1, () -> x.regret());
        for (int best = 0; best < 6; best++) {
            Queryschool six = of(6);
            six.round(1 << best, true);
            six.round(1 << best, true);
            Check.due("the one that was right: " + best, 2, () -> six.regret());
        }
        Queryschool y = of(3);
        y.round(6, true);
        y.round(5, true);
        y.round(3, true);
        Check.due("the crowd is better than each", -1, () -> y.regret());
        y.experts(1);
        y.round(1, false);
        Check.due("one is the crowd", 0, () -> y.regret());
    }
}
