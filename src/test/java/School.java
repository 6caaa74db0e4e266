/** Schools to begin a test with. */
final class School {
    static final int[] BEYOND = {Integer.MIN_VALUE, Integer.MIN_VALUE + 1, -32, -1};

    private School() {
    }

    static Queryschool of(int points, int... sets) {
        Queryschool x = new Queryschool();
        x.points(points);
        for (int set : sets) {
            x.concept(set);
        }
        return x;
    }

    static Queryschool family(int points, char family) {
        Queryschool x = of(points);
        x.family(family);
        return x;
    }

    /** All sets over a few points, 4 at most. */
    static Queryschool cube(int points) {
        Queryschool x = of(points);
        for (int set = 0; set < 1 << points; set++) {
            x.concept(set);
        }
        return x;
    }

    /** 24 concepts over six points: the sets 40 to 63 by rising bits. */
    static Queryschool full() {
        Queryschool x = of(6);
        for (int set = 40; set < 64; set++) {
            x.concept(set);
        }
        return x;
    }

    static Queryschool taught(char kind, int concept, int budget, int points, int... sets) {
        Queryschool x = of(points, sets);
        x.teach(kind, concept, budget);
        return x;
    }

    static void ask(Queryschool x, int point, int times) {
        for (int i = 0; i < times; i++) {
            x.ask(point);
        }
    }

    static Queryschool states(boolean... accepting) {
        Queryschool x = new Queryschool();
        for (boolean isAccepting : accepting) {
            x.state(isAccepting);
        }
        return x;
    }

    /** The conflicts of all concepts, by their numbers. */
    static String conflicts(Queryschool x, int many) {
        StringBuilder text = new StringBuilder();
        for (int concept = 0; concept < many; concept++) {
            text.append(concept == 0 ? "" : " ").append(x.conflicts(concept));
        }
        return text.toString();
    }

    static String sets(Queryschool x, int many) {
        StringBuilder text = new StringBuilder();
        for (int concept = 0; concept < many; concept++) {
            text.append(concept == 0 ? "" : " ").append(x.setOf(concept));
        }
        return text.toString();
    }
}
