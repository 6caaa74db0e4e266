import java.util.Random;

/** Runs of calls drawn by fixed seeds, each answer held against the model's. */
public final class ModelTest {
    private static final int RUNS = 240;
    private static final int CALLS = 512;
    private static final int WRONG_SHOWN = 10;
    private static final int[] EDGES = {
        Integer.MIN_VALUE, Integer.MIN_VALUE + 1, -64, -2, -1, 0, 1, 2, 3, 4, 5, 6, 7, 8, 9, 20, 23, 24, 25,
        31, 32, 33, 63, 64, 65, 255, 256, 333, 334, 400, 999, 1000, Integer.MAX_VALUE - 1, Integer.MAX_VALUE
    };
    private static final char[] SIGNS = {'t', 's', 'i', 'p', 'h', 'l', 'a', 'b', 'c', 'A', 'T', '-', '?', 0, 65535};

    private static Random draw;
    private static Queryschool x;
    private static Model m;
    private static int wrong = 0;

    public static void main(String[] args) {
        for (int run = 0; run < RUNS && wrong < WRONG_SHOWN; run++) {
            draw = new Random(run);
            x = new Queryschool();
            m = new Model();
            setUp(run);
            for (int call = 0; call < CALLS && wrong < WRONG_SHOWN; call++) {
                step(run, call, draw.nextInt(100));
            }
        }
        System.out.println("ModelTest: " + RUNS + " runs, " + wrong + " wrong");
        if (wrong != 0) {
            System.exit(1);
        }
    }

    // Without this most runs would never see many points or a full school.
    private static void setUp(int run) {
        int points = 1 + run % 6;
        x.points(points);
        m.points(points);
        int many = draw.nextInt(40);
        for (int i = 0; i < many; i++) {
            int set = draw.nextInt(1 << points);
            compare("concept(" + set + ")", run, i, () -> x.concept(set), () -> m.concept(set));
        }
    }

    private static void compare(String what, int run, int call, Check.Call mine, Check.Call due) {
        String want = Check.outcome(due);
        String got = Check.outcome(mine);
        if (!got.equals(want)) {
            wrong++;
            System.out.println("run " + run + ", call " + call + ": " + what + " answered " + got + ", due is " + want);
        }
    }

    private static boolean rarely() {
        return draw.nextInt(12) == 0;
    }

    private static int below(int bound) {
        return rarely() ? EDGES[draw.nextInt(EDGES.length)] : draw.nextInt(bound);
    }

    private static char oneOf(String signs) {
        return rarely() ? SIGNS[draw.nextInt(SIGNS.length)] : signs.charAt(draw.nextInt(signs.length()));
    }

    private static int someCode() {
        return rarely() ? below(1000) : 100 * draw.nextInt(4) + 10 * draw.nextInt(4) + draw.nextInt(4);
    }

    private static void step(int run, int call, int which) {
        if (which < 50) {
            school(run, call, which);
        } else {
            others(run, call, which);
        }
    }

    private static void school(int run, int call, int which) {
        int c = below(25);
        int p = below(6);
        int set = below(draw.nextBoolean() ? 8 : 64);
        if (which < 1) {
            int many = below(7);
            compare("points(" + many + ")", run, call, () -> x.points(many), () -> m.points(many));
        } else if (which < 5) {
            compare("concept(" + set + ")", run, call, () -> x.concept(set), () -> m.concept(set));
        } else if (which < 7) {
            char family = oneOf("tsip");
            compare("family(" + family + ")", run, call, () -> x.family(family), () -> m.family(family));
        } else if (which < 8) {
            compare("setOf(" + c + ")", run, call, () -> x.setOf(c), () -> m.setOf(c));
        } else if (which < 11) {
            char kind = oneOf("hla");
            int budget = below(3);
            compare("teach(" + kind + ", " + c + ", " + budget + ")", run, call,
                    () -> x.teach(kind, c, budget), () -> m.teach(kind, c, budget));
        } else if (which < 12) {
            int z = draw.nextBoolean() ? draw.nextInt() : EDGES[draw.nextInt(EDGES.length)];
            compare("seed(" + z + ")", run, call, () -> x.seed(z), () -> m.seed(z));
        } else if (which < 22) {
            compare("ask(" + p + ")", run, call, () -> x.ask(p), () -> m.ask(p));
        } else if (which < 25) {
            compare("equal(" + set + ")", run, call, () -> x.equal(set), () -> m.equal(set));
        } else if (which < 26) {
            compare("learn()", run, call, () -> x.learn(), () -> m.learn());
        } else {
            looks(run, call, which, c, p, set);
        }
    }

    private static void looks(int run, int call, int which, int c, int p, int set) {
        switch (which) {
            case 26: compare("answers()", run, call, () -> x.answers(), () -> m.answers()); break;
            case 27: case 28:
                compare("conflicts(" + c + ")", run, call, () -> x.conflicts(c), () -> m.conflicts(c)); break;
            case 29: compare("isAlive(" + c + ")", run, call, () -> x.isAlive(c), () -> m.isAlive(c)); break;
            case 30: compare("alive()", run, call, () -> x.alive(), () -> m.alive()); break;
            case 31: case 32: compare("sure(" + p + ")", run, call, () -> x.sure(p), () -> m.sure(p)); break;
            case 33: case 34: compare("best()", run, call, () -> x.best(), () -> m.best()); break;
            case 35: compare("found()", run, call, () -> x.found(), () -> m.found()); break;
            case 36: case 37:
                compare("isShattered(" + set + ")", run, call, () -> x.isShattered(set), () -> m.isShattered(set));
                break;
            case 38: compare("dimension()", run, call, () -> x.dimension(), () -> m.dimension()); break;
            case 39: case 40: compare("lesson(" + c + ")", run, call, () -> x.lesson(c), () -> m.lesson(c)); break;
            case 41: compare("depth()", run, call, () -> x.depth(), () -> m.depth()); break;
            case 42: compare("mistakes()", run, call, () -> x.mistakes(), () -> m.mistakes()); break;
            case 43: case 44: compare("halver(" + c + ")", run, call, () -> x.halver(c), () -> m.halver(c)); break;
            case 45: compare("aliveShare()", run, call, () -> x.aliveShare(), () -> m.aliveShare()); break;
            case 46: compare("meanLesson()", run, call, () -> x.meanLesson(), () -> m.meanLesson()); break;
            case 47: compare("isSound()", run, call, () -> x.isSound(), () -> m.isSound()); break;
            default: compare("checksum()", run, call, () -> x.checksum(), () -> m.checksum()); break;
        }
    }

    private static void others(int run, int call, int which) {
        boolean yes = draw.nextBoolean();
        if (which < 62) {
            crowd(run, call, which, yes);
        } else if (which < 82) {
            machine(run, call, which, yes);
        } else {
            codes(run, call, which);
        }
    }

    private static void crowd(int run, int call, int which, boolean yes) {
        int e = below(6);
        int says = draw.nextInt(4) == 0 ? below(64) : draw.nextInt(4);
        switch (which) {
            case 50: compare("experts(" + e + ")", run, call, () -> x.experts(e), () -> m.experts(e)); break;
            case 51: case 52: compare("weight(" + e + ")", run, call, () -> x.weight(e), () -> m.weight(e)); break;
            case 53: case 54: compare("regret()", run, call, () -> x.regret(), () -> m.regret()); break;
            default:
                compare("round(" + says + ", " + yes + ")", run, call, () -> x.round(says, yes), () -> m.round(says, yes));
        }
    }

    private static void machine(int run, int call, int which, boolean yes) {
        int state = below(5);
        int other = below(5);
        int length = below(9);
        int bits = rarely() ? below(300) : draw.nextInt(1 << Math.max(0, Math.min(8, length)));
        char letter = oneOf("ab");
        switch (which) {
            case 62: compare("state(" + yes + ")", run, call, () -> x.state(yes), () -> m.state(yes)); break;
            case 63: case 64: case 65: case 66: case 67: case 68:
                compare("go(" + state + ", " + letter + ", " + other + ")", run, call,
                        () -> x.go(state, letter, other), () -> m.go(state, letter, other));
                break;
            case 69: case 70: case 71:
                compare("accepts(" + length + ", " + bits + ")", run, call,
                        () -> x.accepts(length, bits), () -> m.accepts(length, bits));
                break;
            case 72: case 73: case 74:
                compare("apart(" + state + ", " + other + ")", run, call,
                        () -> x.apart(state, other), () -> m.apart(state, other));
                break;
            case 75: case 76:
                compare("leastStates()", run, call, () -> x.leastStates(), () -> m.leastStates());
                break;
            case 77: case 78:
                compare("sample(" + length + ", " + bits + ", " + yes + ")", run, call,
                        () -> x.sample(length, bits, yes), () -> m.sample(length, bits, yes));
                break;
            case 79: compare("fits()", run, call, () -> x.fits(), () -> m.fits()); break;
            default: compare("fewest()", run, call, () -> x.fewest(), () -> m.fewest()); break;
        }
    }

    private static void codes(int run, int call, int which) {
        int code = someCode();
        int one = below(5);
        int other = below(5);
        switch (which) {
            case 82: compare("secret(" + code + ")", run, call, () -> x.secret(code), () -> m.secret(code)); break;
            case 83: case 84: case 85: case 86: case 87: case 88:
                compare("guess(" + code + ")", run, call, () -> x.guess(code), () -> m.guess(code));
                break;
            case 89: compare("possible()", run, call, () -> x.possible(), () -> m.possible()); break;
            case 90: compare("nextCode()", run, call, () -> x.nextCode(), () -> m.nextCode()); break;
            case 91: compare("things(" + one + ")", run, call, () -> x.things(one), () -> m.things(one)); break;
            case 92: case 93: case 94: case 95:
                compare("ahead(" + one + ", " + other + ")", run, call,
                        () -> x.ahead(one, other), () -> m.ahead(one, other));
                break;
            case 96: compare("orders()", run, call, () -> x.orders(), () -> m.orders()); break;
            default: compare("pair()", run, call, () -> x.pair(), () -> m.pair()); break;
        }
    }
}
