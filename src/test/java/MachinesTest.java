/** Promises 28 to 35: state, go, accepts, apart, leastStates, sample, fits, fewest. */
public final class MachinesTest {
    public static void main(String[] args) {
        promise28();
        promise29();
        promise30();
        promise31();
        promise31Far();
        promise32();
        promise33();
        promise34();
        promise35();
        promise35Grows();
        Check.done("MachinesTest");
    }

    private static Queryschool of(boolean... accepting) {
        Queryschool x = new Queryschool();
        for (boolean isAccepting : accepting) {
            x.state(isAccepting);
        }
        return x;
    }

    private static void promise28() {
        Queryschool x = new Queryschool();
        for (int state = 0; state < 5; state++) {
            int number = state;
            Check.due("state " + state, number, () -> x.state(number == 3));
            Check.due("itself at first", number, () -> x.go(number, 'a', number));
            Check.due("itself at first", number, () -> x.go(number, 'b', number));
        }
        Check.illegalState("a sixth", () -> x.state(true));
        x.go(0, 'b', 3);
        Check.due("3 is accepting", true, () -> x.accepts(1, 1));
        x.go(0, 'b', 4);
        Check.due("4 is not", false, () -> x.accepts(1, 1));
    }

    private static void promise29() {
        Queryschool x = of(false, true, false);
        Check.due("itself before", 0, () -> x.go(0, 'a', 1));
        Check.due("1 before", 1, () -> x.go(0, 'a', 2));
        Check.due("the other letter", 0, () -> x.go(0, 'b', 1));
        Check.due("2 before", 2, () -> x.go(0, 'a', 0));
        Check.index("go(3, ..)", () -> x.go(3, 'a', 0));
        Check.index("go(-1, ..)", () -> x.go(-1, 'a', 0));
        Check.index("go(.., 3)", () -> x.go(0, 'a', 3));
        Check.index("go(.., -1)", () -> x.go(0, 'a', -1));
        Check.argument("no such letter", () -> x.go(0, 'c', 0));
        Check.argument("no capitals", () -> x.go(0, 'A', 0));
        Check.index("no such state comes first", () -> x.go(3, 'c', 0));
        Check.index("no such state comes first", () -> x.go(0, 'c', 3));
        Check.due("nothing changed", 0, () -> x.go(0, 'a', 0));
        Check.due("nothing changed", 1, () -> x.go(0, 'b', 0));
        Check.index("no states", () -> new Queryschool().go(0, 'a', 0));
    }

    private static void promise30() {
        Queryschool none = new Queryschool();
        Check.unsupported("no state", () -> none.accepts(0, 0));
        Check.argument("no word comes first", () -> none.accepts(9, 0));
        Queryschool x = of(false, false, true);
        x.go(0, 'b', 1);
        x.go(1, 'a', 2);
        x.go(2, 'b', 0);
        Check.due("the empty word", false, () -> x.accepts(0, 0));
        Check.due("ba", true, () -> x.accepts(2, 1));
        Check.due("ab", false, () -> x.accepts(2, 2));
        Check.due("baa", true, () -> x.accepts(3, 1));
        Check.due("bab", false, () -> x.accepts(3, 5));
        Check.due("babba", true, () -> x.accepts(5, 13));
        Check.due("aaaaaaba", true, () -> x.accepts(8, 64));
        Check.due("bbbbbbbb", false, () -> x.accepts(8, 255));
        Check.argument("nine letters", () -> x.accepts(9, 0));
        Check.argument("fewer than none", () -> x.accepts(-1, 0));
        Check.argument("a letter behind the word", () -> x.accepts(2, 4));
        Check.argument("a letter behind the empty word", () -> x.accepts(0, 1));
        Check.argument("a letter behind eight", () -> x.accepts(8, 256));
        Check.argument("bits below 0", () -> x.accepts(8, -1));
        Check.argument("33 letters", () -> x.accepts(33, 0));
        Check.due("the empty word, accepted", true, () -> of(true).accepts(0, 0));
    }

    private static void promise31() {
        Queryschool none = new Queryschool();
        Check.index("no states", () -> none.apart(0, 0));
        Queryschool x = of(false, true, true, false);
        Check.due("by the empty word", 0, () -> x.apart(0, 1));
        Check.due("either way", 0, () -> x.apart(1, 0));
        Check.noElement("alike", () -> x.apart(1, 2));
        Check.noElement("the same", () -> x.apart(3, 3));
        Check.index("apart(4, 0)", () -> x.apart(4, 0));
        Check.index("apart(0, 4)", () -> x.apart(0, 4));
        Check.index("apart(-1, 0)", () -> x.apart(-1, 0));
        Check.index("apart(0, -1)", () -> x.apart(0, -1));
        x.go(2, 'b', 0);
        Check.due("by one letter", 1, () -> x.apart(1, 2));
        x.go(3, 'a', 2);
        x.go(0, 'a', 1);
        Check.due("by two letters", 2, () -> x.apart(0, 3));
        Check.due("either way", 2, () -> x.apart(3, 0));
    }

    private static void promise31Far() {
        Queryschool x = of(false, false, false, false, true);
        for (int state = 0; state < 4; state++) {
            x.go(state, 'b', state + 1);
        }
        Check.due("by three letters", 3, () -> x.apart(0, 1));
        Check.due("by two letters", 2, () -> x.apart(0, 2));
        Check.due("by one letter", 1, () -> x.apart(0, 3));
        Check.due("by none", 0, () -> x.apart(0, 4));
        Check.due("five apart", 5, () -> x.leastStates());
    }

    private static void promise32() {
        Check.unsupported("no state", () -> new Queryschool().leastStates());
        Check.due("one", 1, () -> of(true).leastStates());
        Queryschool x = of(false, true, true, true, false);
        Check.due("what is reached counts alone", 1, () -> x.leastStates());
        x.go(0, 'a', 1);
        x.go(1, 'b', 2);
        Check.due("1 and 2 are alike", 2, () -> x.leastStates());
        x.go(2, 'a', 3);
        x.go(3, 'a', 4);
        x.go(4, 'b', 4);
        Check.due("all five, far behind", 5, () -> x.leastStates());
        x.go(0, 'a', 0);
        Check.due("0 again", 1, () -> x.leastStates());
        Queryschool back = of(false, false, true, false, true);
        back.go(0, 'b', 4);
        back.go(4, 'a', 3);
        back.go(3, 'a', 2);
        back.go(2, 'a', 1);
        Check.due("reached by falling numbers", 5, () -> back.leastStates());
        Queryschool twins = of(false, false, true, true);
        twins.go(0, 'a', 2);
        twins.go(1, 'a', 3);
        twins.go(2, 'b', 1);
        Check.due("0 is like 1 till 2 differs from 3", 4, () -> twins.leastStates());
        twins.go(3, 'b', 0);
        Check.due("two kinds", 2, () -> twins.leastStates());
    }

    private static void promise33() {
        Queryschool x = new Queryschool();
        Check.due("the empty word", 1, () -> x.sample(0, 0, true));
        Check.unsupported("it is there", () -> x.sample(0, 0, true));
        Check.unsupported("it is there, otherwise", () -> x.sample(0, 0, false));
        Check.due("a", 2, () -> x.sample(1, 0, true));
        Check.due("aa is another", 3, () -> x.sample(2, 0, true));
        Check.argument("nine letters", () -> x.sample(9, 0, true));
        Check.argument("fewer than none", () -> x.sample(-1, 0, true));
        Check.argument("a letter behind", () -> x.sample(3, 8, true));
        Check.argument("bits below 0", () -> x.sample(3, -8, true));
        for (int bits = 0; bits < 9; bits++) {
            int word = bits;
            Check.due("word " + bits, 4 + bits, () -> x.sample(8, 255 - word, false));
        }
        Check.illegalState("a thirteenth", () -> x.sample(3, 0, true));
        Check.unsupported("there, and 12", () -> x.sample(8, 255, true));
        Check.argument("no word, and 12", () -> x.sample(8, 256, true));
    }

    private static void promise34() {
        Queryschool x = new Queryschool();
        Check.unsupported("no state", () -> x.fits());
        x.state(true);
        Check.due("an empty sample", true, () -> x.fits());
        x.sample(1, 0, true);
        Check.due("a word in", true, () -> x.fits());
        x.sample(1, 1, false);
        Check.due("a word not in is accepted", false, () -> x.fits());
        x.state(false);
        x.go(0, 'b', 1);
        Check.due("not accepted now", true, () -> x.fits());
        x.sample(2, 1, true);
        Check.due("a word in is not accepted", false, () -> x.fits());
        x.go(1, 'a', 0);
        Check.due("accepted now", true, () -> x.fits());
        Queryschool first = of(false);
        first.sample(0, 0, true);
        Check.due("the first word", false, () -> first.fits());
        first.sample(1, 0, false);
        Check.due("the first word still", false, () -> first.fits());
    }

    private static void promise35() {
        Queryschool x = new Queryschool();
        Check.due("an empty sample", 1, () -> x.fewest());
        x.sample(0, 0, true);
        x.sample(3, 5, true);
        Check.due("all in", 1, () -> x.fewest());
        x.sample(1, 0, false);
        Check.due("two", 2, () -> x.fewest());
        x.sample(2, 0, false);
        Check.due("two still: bab goes home", 2, () -> x.fewest());
        x.sample(2, 2, true);
        x.sample(2, 1, false);
        Check.due("two still: b undoes a", 2, () -> x.fewest());
        x.sample(1, 1, false);
        Check.due("two still: b leads back and forth", 2, () -> x.fewest());
        x.sample(2, 3, false);
        Check.due("three: bb is out, too", 3, () -> x.fewest());
        Queryschool other = new Queryschool();
        other.sample(0, 0, true);
        other.sample(1, 0, true);
        other.sample(1, 1, false);
        Check.due("a keeps, b does not", 2, () -> other.fewest());
        Queryschool once = new Queryschool();
        once.sample(0, 0, false);
        once.sample(1, 1, true);
        for (int length = 2; length <= 8; length++) {
            once.sample(length, (1 << length) - 1, false);
        }
        Check.due("b once alone", 3, () -> once.fewest());
        Queryschool all = new Queryschool();
        all.sample(5, 3, false);
        all.sample(4, 3, false);
        Check.due("none in", 1, () -> all.fewest());
    }

    private static void promise35Grows() {
        Queryschool x = new Queryschool();
        x.sample(0, 0, true);
        x.sample(1, 0, false);
        Check.due("two", 2, () -> x.fewest());
        x.sample(2, 0, false);
        Check.due("two", 2, () -> x.fewest());
        x.sample(3, 0, true);
        Check.due("by threes", 3, () -> x.fewest());
        Check.due("by threes still", 3, () -> x.fewest());
        x.sample(4, 0, false);
        x.sample(5, 0, false);
        x.sample(6, 0, true);
        Check.due("by threes still", 3, () -> x.fewest());
        x.sample(7, 0, true);
        Check.noElement("no more by threes", () -> x.fewest());
        Check.noElement("and so for ever", () -> x.fewest());
        x.sample(8, 0, true);
        Check.noElement("and so for ever", () -> x.fewest());
        Check.due("words can be added still", 10, () -> x.sample(1, 1, true));
    }
}
