/** The boundary cases of promises 28 to 35, and of what 'Terms' says of machines and samples. */
final class BoundsOfMachines {
    private BoundsOfMachines() {
    }

    static void run() {
        machines();
        words();
        samples();
    }

    private static void machines() {
        promise28ItselfAtFirst();
        promise28ThereAre5();
        promise29Letters();
        promise29NoSuchState();
        promise29NoSuchLetter();
    }

    private static void words() {
        promise30EightLetters();
        promise30Bits();
        promise30NoWord();
        promise30NoState();
        promise31TheSame();
        promise31Apart();
        promise31NoSuchState();
        promise31TheyAreNot();
        promise32Reached();
        promise32NoState();
    }

    private static void samples() {
        promise33Length();
        promise33TwelveWords();
        promise33NoWord();
        promise33ItIsThere();
        promise33ItHas12();
        promise34NoOthers();
        promise34NoState();
        promise35OneTwoOrThree();
        promise35MoreThanThree();
    }

    /** Five states, one behind the other by 'b', the last one accepting. */
    private static Queryschool chain() {
        Queryschool x = School.states(false, false, false, false, true);
        for (int state = 0; state < 4; state++) {
            x.go(state, 'b', state + 1);
        }
        return x;
    }

    private static void promise28ItselfAtFirst() {
        Doc.says(28, "At most 5 states are numbered from 0, each accepting or not, with a state to go to by the "
                + "letters 'a' and 'b', itself at first; it begins at the state 0.");
        Queryschool x = new Queryschool();
        for (int state = 0; state < 5; state++) {
            int number = state;
            Check.due("its number", number, () -> x.state(number != 0));
            Check.due("itself by a", number, () -> x.go(number, 'a', number));
            Check.due("itself by b", number, () -> x.go(number, 'b', number));
            Check.due("it begins at 0 still", false, () -> x.accepts(8, 170));
        }
        for (int state = 1; state < 5; state++) {
            int number = state;
            x.go(0, 'a', number);
            Check.due(number + " is accepting", true, () -> x.accepts(1, 0));
            Check.due("and goes to itself", true, () -> x.accepts(8, 170));
        }
        Check.due("0 is not", false, () -> x.accepts(0, 0));
        Check.due("one that is", true, () -> School.states(true).accepts(0, 0));
    }

    private static void promise28ThereAre5() {
        Doc.says(28, "Throws `IllegalStateException` if there are 5");
        Queryschool x = School.states(false, false, false, false);
        Check.due("4 are not too many", 4, () -> x.state(false));
        Check.illegalState("5 are", () -> x.state(true));
        Check.illegalState("once more", () -> x.state(false));
        Check.index("there is no sixth", () -> x.go(5, 'a', 0));
        x.go(0, 'a', 4);
        Check.due("the fifth is as it was", false, () -> x.accepts(1, 0));
        Check.due("they are not taken back", 0, () -> x.points(1));
        Check.illegalState("5 still", () -> x.state(true));
    }

    private static void promise29Letters() {
        Doc.says(29, "- `letter`: 'a' or 'b'");
        Queryschool x = chain();
        Check.due("by b to the next", 1, () -> x.go(0, 'b', 1));
        Check.due("by a to itself", 0, () -> x.go(0, 'a', 4));
        Check.due("a is not b", 1, () -> x.go(0, 'b', 0));
        Check.due("b is not a", 4, () -> x.go(0, 'a', 4));
        Check.due("the last by a", 4, () -> x.go(4, 'a', 0));
        Check.due("the last by b", 4, () -> x.go(4, 'b', 3));
        Check.due("the last by a, told before", 0, () -> x.go(4, 'a', 4));
        Check.due("the last by b, told before", 3, () -> x.go(4, 'b', 4));
    }

    private static void promise29NoSuchState() {
        Doc.says(29, "Throws `IndexOutOfBoundsException` if there is no such state, for either");
        Check.index("none at all", () -> new Queryschool().go(0, 'a', 0));
        Queryschool x = School.states(false, true);
        for (int state : new int[] {Integer.MIN_VALUE, -1, 2, 5, 1 << 30, Integer.MAX_VALUE}) {
            Check.index("go(" + state + ", 'a', 0)", () -> x.go(state, 'a', 0));
            Check.index("go(0, 'b', " + state + ")", () -> x.go(0, 'b', state));
            Check.index("go(" + state + ", 'a', " + state + ")", () -> x.go(state, 'a', state));
        }
        Check.due("a leads to itself still", 0, () -> x.go(0, 'a', 0));
        Check.due("b leads to itself still", 0, () -> x.go(0, 'b', 0));
        Check.index("one beyond 5", () -> chain().go(5, 'b', 0));
        Check.index("to one beyond 5", () -> chain().go(0, 'b', 5));
    }

    private static void promise29NoSuchLetter() {
        Doc.says(29, "Throws `IllegalArgumentException` if there is no such letter");
        Queryschool x = School.states(false, true);
        for (int sign : new int[] {0, 1, '`', 'c', 'A', 'B', ' ', 353, 65535}) {
            Check.argument("the sign " + sign, () -> x.go(0, (char) sign, 1));
        }
        Check.due("a leads to itself still", 0, () -> x.go(0, 'a', 0));
        Check.due("b leads to itself still", 0, () -> x.go(0, 'b', 0));
    }

    private static void promise30EightLetters() {
        Doc.says(30, "- `length`: the length, 0 to 8");
        Queryschool x = School.states(true, false);
        x.go(0, 'a', 1);
        x.go(1, 'a', 0);
        for (int length = 0; length <= 8; length++) {
            int own = length;
            Check.due("an even number of a: " + own, own % 2 == 0, () -> x.accepts(own, 0));
        }
        Check.argument("one too few", () -> x.accepts(-1, 0));
        Check.argument("one too many", () -> x.accepts(9, 0));
    }

    private static void promise30Bits() {
        Doc.says(30, "A word has at most 8 letters, told as its length and bits, 1 for a first 'b', 2 for a second "
                + "one and so on, 'a' for others.");
        Queryschool x = chain();
        Check.due("bbbb", true, () -> x.accepts(4, 15));
        Check.due("bbb", false, () -> x.accepts(3, 7));
        Check.due("aaaabbbb", true, () -> x.accepts(8, 240));
        Check.due("bbbbaaaa", true, () -> x.accepts(8, 15));
        Check.due("aaaaabbb", false, () -> x.accepts(8, 224));
        Check.due("bbbbbbbb", true, () -> x.accepts(8, 255));
        Check.due("the empty word", false, () -> x.accepts(0, 0));
        Queryschool first = School.states(false, true, false);
        first.go(0, 'b', 1);
        first.go(0, 'a', 2);
        Check.due("the first letter b", true, () -> first.accepts(8, 1));
        Check.due("the first letter a", false, () -> first.accepts(8, 254));
    }

    private static void promise30NoWord() {
        Doc.says(30, "Throws `IllegalArgumentException` if it is no word");
        Queryschool x = School.states(true);
        for (int length = 0; length <= 8; length++) {
            int own = length;
            Check.due("the last word of " + own, true, () -> x.accepts(own, (1 << own) - 1));
            Check.argument("one beyond, of " + own, () -> x.accepts(own, 1 << own));
            Check.argument("bits below 0, of " + own, () -> x.accepts(own, -1));
            Check.argument("the least, of " + own, () -> x.accepts(own, Integer.MIN_VALUE));
            Check.argument("the greatest, of " + own, () -> x.accepts(own, Integer.MAX_VALUE));
        }
        for (int length : new int[] {Integer.MIN_VALUE, -32, -1, 9, 31, 32, 33, Integer.MAX_VALUE}) {
            Check.argument("the length " + length, () -> x.accepts(length, 0));
            Check.argument("the length " + length + " with a b", () -> x.accepts(length, 1));
        }
    }

    private static void promise30NoState() {
        Doc.says(30, "Throws `UnsupportedOperationException` if there is no state");
        Queryschool x = new Queryschool();
        Check.unsupported("the empty word", () -> x.accepts(0, 0));
        Check.unsupported("the longest", () -> x.accepts(8, 255));
        x.state(false);
        Check.due("one is enough", false, () -> x.accepts(8, 255));
    }

    private static void promise31TheSame() {
        Doc.says(31, "- `other`: another state, or the same");
        Queryschool x = chain();
        for (int state = 0; state < 5; state++) {
            int own = state;
            Check.noElement("the same: " + own, () -> x.apart(own, own));
        }
        Check.due("another one", 0, () -> x.apart(3, 4));
    }

    private static void promise31Apart() {
        Doc.says(31, "States are apart if by some word one comes to an accepting state, and the other one does not.");
        Queryschool x = chain();
        Check.due("by the empty word", 0, () -> x.apart(4, 0));
        Check.due("by b", 1, () -> x.apart(3, 0));
        Check.due("by bb", 2, () -> x.apart(2, 0));
        Check.due("by bbb, the longest for five", 3, () -> x.apart(1, 0));
        Check.due("likewise", 3, () -> x.apart(0, 1));
        Queryschool two = School.states(false, true);
        Check.due("one that none reaches", 0, () -> two.apart(0, 1));
        Queryschool three = School.states(false, false, true);
        three.go(1, 'a', 2);
        Check.due("by a, the first of one letter", 1, () -> three.apart(0, 1));
        three.go(1, 'a', 1);
        three.go(1, 'b', 2);
        Check.due("by b, the last of one letter", 1, () -> three.apart(0, 1));
        Queryschool four = School.states(false, false, false, true);
        four.go(0, 'a', 2);
        four.go(2, 'b', 3);
        Check.due("by ab", 2, () -> four.apart(0, 1));
        four.go(0, 'a', 0);
        four.go(0, 'b', 2);
        four.go(2, 'b', 2);
        four.go(2, 'a', 3);
        Check.due("by ba", 2, () -> four.apart(1, 0));
    }

    private static void promise31NoSuchState() {
        Doc.says(31, "Throws `IndexOutOfBoundsException` if there is no such state, for either");
        Check.index("none at all", () -> new Queryschool().apart(0, 0));
        Queryschool x = School.states(false, true);
        for (int state : new int[] {Integer.MIN_VALUE, -1, 2, 5, Integer.MAX_VALUE}) {
            Check.index("apart(" + state + ", 0)", () -> x.apart(state, 0));
            Check.index("apart(0, " + state + ")", () -> x.apart(0, state));
            Check.index("the same, apart(" + state + ", " + state + ")", () -> x.apart(state, state));
        }
        Check.index("one beyond 5", () -> chain().apart(5, 0));
        Check.index("another beyond 5", () -> chain().apart(0, 5));
    }

    private static void promise31TheyAreNot() {
        Doc.says(31, "Throws `NoSuchElementException` if they are not");
        Queryschool x = School.states(true, true, false);
        Check.noElement("alike by any word", () -> x.apart(0, 1));
        x.go(0, 'a', 1);
        x.go(1, 'a', 0);
        Check.noElement("to and fro", () -> x.apart(1, 0));
        x.go(0, 'b', 2);
        Check.due("not alike", 1, () -> x.apart(1, 0));
        x.go(1, 'b', 2);
        Check.noElement("alike again", () -> x.apart(1, 0));
        Queryschool all = School.states(false, false, false, false, false);
        Check.noElement("five, none accepting", () -> all.apart(0, 4));
        Queryschool both = School.states(true, true, true, true, true);
        Check.noElement("five, all accepting", () -> both.apart(4, 0));
    }

    private static void promise32Reached() {
        Doc.says(32, "The least machine has as many states as there are of those that can be reached of which each "
                + "two are apart.");
        Check.due("one", 1, () -> School.states(false).leastStates());
        Check.due("five, by four letters", 5, () -> chain().leastStates());
        Queryschool two = School.states(false, true);
        Check.due("one of two is reached", 1, () -> two.leastStates());
        two.go(0, 'b', 1);
        Check.due("two of two are", 2, () -> two.leastStates());
        Queryschool x = School.states(true, false, false, true, false);
        Check.due("0 is reached, no other", 1, () -> x.leastStates());
        x.go(0, 'b', 4);
        Check.due("the last one, too", 2, () -> x.leastStates());
        x.go(4, 'a', 1);
        x.go(1, 'a', 2);
        x.go(2, 'a', 3);
        Check.due("all five by four letters", 5, () -> x.leastStates());
        x.go(2, 'a', 2);
        Check.due("3 is not reached; 4, 1 and 2 are alike", 2, () -> x.leastStates());
        x.go(0, 'b', 0);
        Check.due("alike states that are not reached", 1, () -> x.leastStates());
        Queryschool alike = School.states(true, true, true, true, true);
        for (int state = 0; state < 5; state++) {
            alike.go(state, 'a', (state + 1) % 5);
        }
        Check.due("all five are reached and alike", 1, () -> alike.leastStates());
    }

    private static void promise32NoState() {
        Doc.says(32, "Throws `UnsupportedOperationException` if there is no state");
        Queryschool x = new Queryschool();
        Check.unsupported("none", () -> x.leastStates());
        x.state(false);
        Check.due("one is enough", 1, () -> x.leastStates());
    }

    private static void promise33Length() {
        Doc.says(33, "- `length`: the length, 0 to 8");
        Queryschool x = new Queryschool();
        Check.due("the shortest", 1, () -> x.sample(0, 0, true));
        Check.due("the longest", 2, () -> x.sample(8, 255, true));
        Check.argument("one too few", () -> x.sample(-1, 0, true));
        Check.argument("one too many", () -> x.sample(9, 0, true));
        Check.due("two still", 3, () -> x.sample(8, 0, true));
    }

    private static void promise33TwelveWords() {
        Doc.says(33, "A sample has at most 12 words, each in or not.");
        Queryschool x = School.states(true);
        for (int bits = 0; bits < 11; bits++) {
            int own = bits;
            Check.due("in", own + 1, () -> x.sample(4, own, true));
        }
        Check.due("all are in", true, () -> x.fits());
        Check.due("the twelfth is not", 12, () -> x.sample(4, 15, false));
        Check.due("it counts", false, () -> x.fits());
    }

    private static void promise33NoWord() {
        Doc.says(33, "Throws `IllegalArgumentException` if it is no word");
        Queryschool x = new Queryschool();
        for (int length = 0; length <= 8; length++) {
            int own = length;
            Check.argument("one beyond, of " + own, () -> x.sample(own, 1 << own, true));
            Check.argument("bits below 0, of " + own, () -> x.sample(own, -1, true));
            Check.argument("the least, of " + own, () -> x.sample(own, Integer.MIN_VALUE, true));
            Check.argument("the greatest, of " + own, () -> x.sample(own, Integer.MAX_VALUE, true));
            Check.due("the last word of " + own, own + 1, () -> x.sample(own, (1 << own) - 1, true));
        }
        for (int length : new int[] {Integer.MIN_VALUE, -1, 9, 32, 33, Integer.MAX_VALUE}) {
            Check.argument("the length " + length, () -> x.sample(length, 0, false));
            Check.argument("the length " + length + " with a b", () -> x.sample(length, 1, false));
        }
        Check.due("none was added by that", 10, () -> x.sample(3, 0, true));
    }

    private static void promise33ItIsThere() {
        Doc.says(33, "Throws `UnsupportedOperationException` if it is there");
        Queryschool x = School.states(true);
        x.sample(0, 0, true);
        Check.unsupported("the empty word", () -> x.sample(0, 0, true));
        Check.unsupported("the empty word, not in now", () -> x.sample(0, 0, false));
        Check.due("it is in still", true, () -> x.fits());
        Check.due("another length", 2, () -> x.sample(1, 0, true));
        Check.due("another length", 3, () -> x.sample(8, 0, true));
        Check.due("other letters", 4, () -> x.sample(8, 1, true));
        Check.unsupported("the last one", () -> x.sample(8, 1, true));
        Check.unsupported("one between", () -> x.sample(1, 0, false));
        Check.due("four still", 5, () -> x.sample(8, 128, true));
    }

    private static void promise33ItHas12() {
        Doc.says(33, "Throws `IllegalStateException` if it has 12");
        Queryschool x = School.states(true);
        for (int bits = 0; bits < 11; bits++) {
            x.sample(4, bits, true);
        }
        Check.due("11 are not too many", 12, () -> x.sample(4, 11, true));
        Check.illegalState("12 are", () -> x.sample(4, 12, false));
        Check.illegalState("once more", () -> x.sample(0, 0, true));
        Check.due("what was refused counts nothing", true, () -> x.fits());
        Check.due("one state is enough still", 1, () -> x.fewest());
    }

    private static void promise34NoOthers() {
        Doc.says(34, "It fits a machine if this accepts those that are in, and no others.");
        Queryschool x = School.states(true, false);
        x.go(0, 'a', 1);
        Check.due("an empty sample", true, () -> x.fits());
        Check.due("an empty sample, nothing accepted", true, () -> School.states(false).fits());
        x.sample(0, 0, true);
        Check.due("in and accepted", true, () -> x.fits());
        x.sample(1, 0, false);
        Check.due("not in and not accepted", true, () -> x.fits());
        x.sample(8, 255, true);
        Check.due("the longest", true, () -> x.fits());
        x.go(0, 'a', 0);
        Check.due("not in, but accepted", false, () -> x.fits());
        x.go(0, 'a', 1);
        x.go(0, 'b', 1);
        Check.due("in, but not accepted", false, () -> x.fits());
        Queryschool alone = School.states(false);
        alone.sample(8, 255, true);
        Check.due("the only one", false, () -> alone.fits());
        Queryschool last = School.states(true);
        last.sample(0, 0, true);
        last.sample(1, 0, false);
        last.sample(1, 1, true);
        Check.due("one between", false, () -> last.fits());
    }

    private static void promise34NoState() {
        Doc.says(34, "Throws `UnsupportedOperationException` if there is no state");
        Queryschool x = new Queryschool();
        Check.unsupported("an empty sample", () -> x.fits());
        x.sample(0, 0, false);
        Check.unsupported("a word", () -> x.fits());
        x.state(false);
        Check.due("one is enough", true, () -> x.fits());
    }

    /** A sample of words by their letters, each behind whether it is in. */
    private static Queryschool sampled(Object... parts) {
        Queryschool x = new Queryschool();
        for (int i = 0; i < parts.length; i += 2) {
            String word = (String) parts[i + 1];
            int bits = 0;
            for (int letter = 0; letter < word.length(); letter++) {
                bits |= word.charAt(letter) == 'b' ? 1 << letter : 0;
            }
            x.sample(word.length(), bits, (Boolean) parts[i]);
        }
        return x;
    }

    private static Queryschool count(int by, int most) {
        Queryschool x = new Queryschool();
        for (int length = 0; length <= most; length++) {
            x.sample(length, 0, length % by == 0);
        }
        return x;
    }

    private static void promise35OneTwoOrThree() {
        Doc.says(35, "Returns 1, 2 or 3.");
        Queryschool empty = new Queryschool();
        Check.due("an empty sample", 1, () -> empty.fewest());
        empty.sample(8, 255, false);
        Check.due("one not in", 1, () -> empty.fewest());
        Check.due("all in", 1, () -> count(1, 8).fewest());
        Check.due("by twos", 2, () -> count(2, 8).fewest());
        Check.due("by threes", 3, () -> count(3, 8).fewest());
        Queryschool last = new Queryschool();
        last.sample(0, 0, true);
        last.sample(1, 1, false);
        last.sample(2, 3, false);
        Check.due("b forth, and not back", 2, () -> last.fewest());
        last.sample(3, 7, true);
        Check.due("by threes of b", 3, () -> last.fewest());
        Check.due("a keeps, b does not", 2, () -> sampled(true, "", true, "a", false, "b").fewest());
        Check.due("b keeps, a does not", 2, () -> sampled(true, "", true, "b", false, "a").fewest());
        Check.due("aaa ends like a or like aa by fewer", 3, () -> sampled(true, "a", true, "aa", false, "aaa").fewest());
        Check.due("likewise, not in", 3, () -> sampled(false, "b", false, "bb", true, "bbb").fewest());
        Check.due("b just once", 3, () -> sampled(false, "", true, "b", false, "bb", false, "bbb", false, "bbbb",
                true, "ba", true, "ab").fewest());
        Queryschool none = School.states(false);
        none.sample(0, 0, true);
        Check.due("the machine told has no say", 1, () -> none.fewest());
    }

    private static void promise35MoreThanThree() {
        Doc.says(35, "Throws `NoSuchElementException` if it needs more than 3");
        Check.noElement("by fours", () -> count(4, 8).fewest());
        Check.noElement("by eights", () -> count(8, 8).fewest());
        Queryschool x = count(3, 5);
        Check.due("by threes", 3, () -> x.fewest());
        x.sample(6, 0, false);
        Check.noElement("not in any more", () -> x.fewest());
        Check.noElement("asked again", () -> x.fewest());
        Check.due("words can be added still", 8, () -> x.sample(7, 0, true));
        Check.noElement("and help nothing", () -> x.fewest());
        Queryschool far = new Queryschool();
        far.sample(0, 0, false);
        far.sample(8, 0, true);
        Check.due("a word of 8 needs but two", 2, () -> far.fewest());
    }
}
