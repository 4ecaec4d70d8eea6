import java.util.ArrayList;
import java.util.List;

/** 'What it is' and 'Terms', sentence by sentence: what they say of boundaries. */
final class TermsBoundsTest {
    public static void main(String[] args) {
        lastCalls();
        positions();
        texts();
        tape();
        manuscripts();
        descent();
        generations();
        lostOnes();
        scribesAndHabits();
        HabitsBounds.all();
        distances();
        guessesOfSeveral();
        guessesOfNone();
        votesForLength();
        votesForLetters();
        RefusalBounds.all();
        withoutBoundaries();
        Document.nothingLeft("What it is", "Terms", "Not promised");
        Document.noOtherParts(parts());
        Check.end();
    }

    private static List<String> parts() {
        List<String> all = new ArrayList<String>(List.of("What it is", "The public face", "Terms"));
        for (int i = 1; i <= 25; i++) {
            all.add("Promise " + i);
        }
        all.add("Not promised");
        return all;
    }

    private static void withoutBoundaries() {
        Document.noBoundary("What it is", "A scriptorium where texts are copied, and errors descend.");
        Document.noBoundary("Terms", "Scribes have habits that change what they copy; copies are copied again;"
                + " manuscripts are lost and emended; and it is told how far texts are from each other, who comes from"
                + " whom, what could be guessed from the texts alone, and which letters most of them have.",
                "All numbers are whole.", "Texts.", "Manuscripts.", "Scribes.", "Distance.", "Guess.", "Vote.",
                "One that was written is an origin; a copy has an exemplar, from which it was copied, and a scribe.",
                "Ahead of the calls `feed`, `trim`, `write`, `letter` the interface says: ---- texts.",
                "Ahead of the calls `addScribe`, `addHabit`, `dropHabit`, `habit` the interface says: ---- scribes.",
                "Ahead of the calls `copy`, `emend`, `lose`, `manuscript`, `count` the interface says: ---- copies.",
                "Ahead of the calls `distance`, `common`, `guess`, `find` the interface says: ---- who comes from"
                + " whom.",
                "Ahead of the calls `voteLength`, `vote`, `voteDistance`, `trial`, `advise`, `decay`, `digest` the"
                + " interface says: ---- what most have, and what would come.");
        Document.noBoundary("Not promised", "How the state is held inside the object is free, as are the speed of each"
                + " call, the text of toString and the behaviour of equals and hashCode.",
                "Use of one object from several threads at once is not promised to be safe.",
                "Nothing is promised beyond the answers and state changes described above, and nothing about an object"
                + " after its 512th call.");
    }

    /** The dearest object: what it answers up to its 512th call is the same as what a new one answers. */
    private static void lastCalls() {
        Document.says("What it is", "An object is used for at most 512 calls after it has been made; what later calls"
                + " answer is free.");
        long full = Scenes.full().digest();
        for (int calls : new int[] {510, 511, 512}) {
            CopyHouse x = Scenes.full();
            for (int i = Scenes.CALLS_OF_FULL; i < calls - 1; i++) {
                if (i % 3 == 0) {
                    Bound.told(x, y -> y.lose(-1));
                } else if (i % 3 == 1) {
                    x.trial(2, i % 8, 20, 1);
                } else {
                    x.digest();
                }
            }
            Check.due("digest() as call " + calls, x.digest(), full);
        }
        CopyHouse feeder = new CopyHouse();
        for (int call = 1; call < 511; call += 2) {
            feeder.feed(0, 0, 0, 0, 0);
            feeder.write();
        }
        Check.due("feed() as call 511", feeder.feed(0x61626364, 0, 0, 0, 0), 20);
        Check.due("trim() as call 512", feeder.trim(4), 4);
    }

    private static void positions() {
        Document.terms("Positions are counted from 0.");
        Bound.answers(() -> Scenes.written("xyz"), "letter(0, 0)", x -> x.letter(0, 0), 'x');
        Bound.answers(() -> Scenes.written("xyz"), "letter(0, 1)", x -> x.letter(0, 1), 'y');
        Bound.noPlace(() -> Scenes.written("xyz"), "letter(0, -1)", x -> x.letter(0, -1));
        Bound.answers(() -> Scenes.written("xyz"), "find of the first letter", x -> x.find(0, 0, 23, -1), 0);
        Bound.answers(() -> Scenes.written("xyz"), "find of the second letter", x -> x.find(0, 0, 24, -1), 1);
        Bound.answers(() -> Scenes.written("xyz"), "vote(0)", x -> x.vote(0), 'x');
        Bound.noPlace(() -> Scenes.written("xyz"), "vote(-1)", x -> x.vote(-1));
        CopyHouse x = Scenes.written("xyz", "abc");
        x.emend(0, 1, 0, 1);
        Check.due("the text behind emend(0, 1, 0, 1)", Desk.text(x, 0), "ayz");
    }

    private static void texts() {
        Document.terms("A text is a row of letters, a to z; it has at most 120.");
        Bound.makes(Scenes::empty, "a and z", x -> Desk.written(x, "az"), "az");
        Bound.answers(() -> Scenes.oneByte(96), "write() of the byte ahead of a", x -> x.write(), -1);
        Bound.answers(() -> Scenes.oneByte(123), "write() of the byte behind z", x -> x.write(), -1);
        for (int missing = 0; missing <= 5; missing++) {
            int one = missing;
            Bound.Scene scene = () -> Scenes.nearlyFull(one);
            Bound.answers(scene, "the length of " + missing + " less than 120", x -> x.manuscript(2, 0), 120 - missing);
            Bound.answers(scene, "the length of its copy", x -> x.manuscript(x.copy(2, 0), 0), 120);
            Bound.answers(scene, "the length of its 20th copy", x -> x.trial(2, 0, 20, 0), 120);
        }
        Bound.answers(() -> Scenes.written("a"), "trial of one letter", x -> x.trial(0, Scenes.doubler(x), 6, 0), 64);
        Bound.answers(() -> Scenes.written("a"), "trial of one letter", x -> x.trial(0, Scenes.doubler(x), 7, 0), 120);
        Bound.answers(() -> Scenes.written("a"), "trial of one letter", x -> x.trial(0, Scenes.doubler(x), 8, 0), 120);
    }

    private static void tape() {
        Document.terms("The tape is a row of at most 60 bytes, at first empty, which feed and trim fill; write makes a"
                + " manuscript of it.");
        Bound.answers(Scenes::empty, "count(5)", x -> x.count(5), 0);
        for (int bytes : new int[] {1, 59, 60}) {
            Bound.answers(() -> Scenes.taped(bytes), "count(5) of " + bytes, x -> x.count(5), bytes);
            Bound.makes(() -> Scenes.taped(bytes), "write() of " + bytes, x -> x.write(), Scenes.alphabet(bytes));
        }
        Bound.badState(() -> Scenes.taped(60), "feed() behind 60 bytes", x -> x.feed(0, 0, 0, 0, 0));
        Bound.badState(() -> Scenes.trimmed(60, 41), "feed() behind 41 bytes", x -> x.feed(0, 0, 0, 0, 0));
        Bound.answers(() -> Scenes.trimmed(60, 40), "feed() behind 40 bytes", x -> x.feed(0, 0, 0, 0, 0), 60);
    }

    private static void manuscripts() {
        Document.terms("There are at most 24, numbered from 0 in the order in which they were made.");
        CopyHouse x = Scenes.empty();
        x.addScribe();
        for (int i = 0; i < 24; i++) {
            int made = i % 2 == 0 ? Desk.written(x, "a" + Scenes.alphabet(i + 1)) : x.copy(i - 1, 0);
            Check.due("the number of manuscript " + i, made, i);
            Check.due("its length", x.manuscript(i, 0), i - i % 2 + 2);
        }
        Desk.tape(x, "abc");
        String full = IllegalStateException.class.getName();
        Check.due("write() of the 25th", Bound.told(x, y -> y.write()), full);
        Check.due("copy() of the 25th", Bound.told(x, y -> y.copy(0, 0)), full);
        x.lose(23);
        Check.due("write() with one lost", Bound.told(x, y -> y.write()), full);
        Check.due("manuscripts", x.count(0), 24);
        Check.due("the last one is there still", x.manuscript(23, 0), 24);
    }

    private static void descent() {
        Document.terms("A manuscript descends from its exemplar, from the exemplar of this, and so on.");
        Bound.answers(() -> Scenes.written("a"), "descendants of one without copies", x -> x.manuscript(0, 6), 0);
        Bound.answers(Scenes::line, "descendants of the first of a line", x -> x.manuscript(0, 6), 23);
        Bound.answers(Scenes::line, "descendants of the last but one", x -> x.manuscript(22, 6), 1);
        Bound.answers(Scenes::line, "descendants of the last one", x -> x.manuscript(23, 6), 0);
        Bound.answers(() -> Scenes.manuscripts(24), "descendants of an origin", x -> x.manuscript(0, 6), 0);
    }

    private static void generations() {
        Document.terms("Its generation is 0 for an origin, otherwise 1 more than that of its exemplar.");
        for (int number = 0; number < 24; number++) {
            int one = number;
            Bound.answers(Scenes::line, "the generation of " + one + " in a line", x -> x.manuscript(one, 3), one);
            Bound.answers(() -> Scenes.manuscripts(24), "that of an origin", x -> x.manuscript(one, 3), 0);
        }
        CopyHouse x = Scenes.small();
        Check.due("a copy of an origin behind other ones", x.manuscript(x.copy(1, 0), 3), 1);
        Check.due("its copy", x.manuscript(x.copy(5, 0), 3), 2);
        Check.due("another copy of the same", x.manuscript(x.copy(5, 1), 3), 2);
    }

    private static void lostOnes() {
        Document.terms("It is there, or lost (its text is still told, but it cannot be copied or emended any more).");
        Bound.Scene there = () -> Scenes.shortAndLong();
        Bound.Scene lost = () -> Scenes.withLost(Scenes.shortAndLong(), 1);
        Bound.answers(there, "manuscript(1, 4)", x -> x.manuscript(1, 4), 1);
        Bound.answers(lost, "manuscript(1, 4), lost", x -> x.manuscript(1, 4), 0);
        Bound.passes(there, "copy(1, 0)", x -> x.copy(1, 0));
        Bound.badState(lost, "copy(1, 0), lost", x -> x.copy(1, 0));
        Bound.passes(there, "emend(1, 2, 0, 1)", x -> x.emend(1, 2, 0, 1));
        Bound.badState(lost, "emend(1, 2, 0, 1), lost", x -> x.emend(1, 2, 0, 1));
        Check.due("the text of a lost one", Desk.text(lost.made(), 1), Desk.repeated("aabb", 30));
        for (int what : new int[] {0, 1, 2, 3, 5, 6, 7, 8}) {
            Bound.answers(lost, "manuscript(1, " + what + "), lost", x -> x.manuscript(1, what),
                    there.made().manuscript(1, what));
        }
        Bound.answers(lost, "find in a lost one", x -> x.find(1, 117, 1, -1), 118);
        Bound.answers(lost, "distance of a lost one", x -> x.distance(1, 0), 60);
    }

    private static void scribesAndHabits() {
        Document.terms("There are at most 8, numbered likewise; each has at most 5 habits, in their order.");
        CopyHouse x = Scenes.written("a");
        String full = IllegalStateException.class.getName();
        for (int scribe = 0; scribe < 8; scribe++) {
            Check.due("addScribe()", x.addScribe(), scribe);
            for (int n = 1; n <= 5; n++) {
                Check.due("addHabit", x.addHabit(scribe, 1, scribe, 0, n), n);
            }
            int one = scribe;
            Check.due("a sixth habit", Bound.told(x, y -> y.addHabit(one, 1, one, 0, 6)), full);
        }
        Check.due("a ninth scribe", Bound.told(x, y -> y.addScribe()), full);
        for (int scribe = 0; scribe < 8; scribe++) {
            for (int habit = 0; habit < 5; habit++) {
                Check.due("a of the habit", x.habit(scribe, habit, 1), scribe);
                Check.due("n of the habit", x.habit(scribe, habit, 3), habit + 1);
            }
        }
        Document.terms("A habit has a kind, two letters a and b, and a number n, 1 to 9:");
        Class<IllegalArgumentException> bad = IllegalArgumentException.class;
        Bound.range("addHabit, n", () -> Scenes.habits(0), 1, 9, bad, (y, n) -> y.addHabit(1, 2, 0, 0, n));
    }

    private static void far(String one, String other, int want) {
        Bound.Scene scene = () -> Scenes.written(one, other);
        Bound.answers(scene, "distance of " + one + " and " + other, x -> x.distance(0, 1), want);
        Bound.answers(scene, "distance of " + other + " and " + one, x -> x.distance(1, 0), want);
    }

    private static void distances() {
        Document.terms("That of two texts is the least number of steps by which the one becomes the other one; a step"
                + " changes a letter into another one, leaves one out, or puts one in.");
        far("a", "a", 0);
        far("a", "b", 1);
        far("a", "ab", 1);
        far("a", "ba", 1);
        far("bcd", "xcd", 1);
        far("bcd", "bxd", 1);
        far("bcd", "bcx", 1);
        far("bcd", "cd", 1);
        far("bcd", "bd", 1);
        far("bcd", "bc", 1);
        far("bcd", "xbcd", 1);
        far("bcd", "bxcd", 1);
        far("bcd", "bcdx", 1);
        far("bcd", "bdc", 2);
        far("bcd", "cdx", 2);
        far("abcdef", "fabcde", 2);
        far(Scenes.alphabet(60), Scenes.alphabet(60), 0);
        far(Scenes.alphabet(60), Scenes.alphabet(59), 1);
        far(Desk.repeated("a", 60), Desk.repeated("z", 60), 60);
        Bound.answers(Scenes::shortAndLong, "distance of two texts of 120, all other", x -> x.distance(1, 2), 120);
        Bound.answers(Scenes::shortAndLong, "distance of 120 letters and none", x -> x.distance(1, 3), 120);
        Bound.answers(Scenes::shortAndLong, "distance of no letters and 120", x -> x.distance(3, 1), 120);
        Bound.answers(Scenes::shortAndLong, "distance of none and none", x -> x.distance(3, x.copy(3, 0)), 0);
        Bound.answers(() -> Scenes.nearlyFull(1), "distance of 119 and 120", x -> x.distance(2, 1), 1);
        Bound.answers(() -> Scenes.nearlyFull(5), "distance of 115 and 120", x -> x.distance(2, 1), 5);
    }

    private static void guessIs(int want, String... texts) {
        int last = texts.length - 1;
        Bound.answers(() -> Scenes.written(texts), "guess of " + String.join(" ", texts), x -> x.guess(last), want);
    }

    private static void guessesOfSeveral() {
        Document.terms("For a manuscript that is there: the manuscript with the least distance from it, of all others"
                + " that are there, and have smaller numbers; of several that with the greatest number.");
        guessIs(0, "aaa", "aaa");
        guessIs(1, "aaa", "aaa", "aaa");
        guessIs(0, "aaa", "aab", "aaa");
        guessIs(1, "aaa", "aab", "aab");
        guessIs(1, "aab", "aac", "aaa");
        guessIs(2, "aab", "bbb", "aac", "aaa");
        guessIs(0, "aab", "bbb", "acc", "aaa");
        guessIs(1, "zzz", "yyy", "xxx");
        Bound.answers(() -> Scenes.written("aaa", "aaa"), "guess(0), a greater number is nearest", x -> x.guess(0), -1);
        Bound.answers(() -> Scenes.written("aaa", "abb", "abb"), "guess(1), likewise", x -> x.guess(1), 0);
        Bound.Scene lost = () -> Scenes.withLost(Scenes.written("aab", "aac", "aad", "aaa"), 2);
        Bound.answers(lost, "guess(3), the last of several is lost", x -> x.guess(3), 1);
        Bound.answers(lost, "guess(2), lost", x -> x.guess(2), -1);
        Bound.answers(Scenes::shortAndLong, "guess(2), 120 steps from all ahead", x -> x.guess(2), 1);
        Bound.answers(Scenes::shortAndLong, "guess(3), an empty text", x -> x.guess(3), 0);
        Bound.Scene far = () -> Scenes.withLost(Scenes.shortAndLong(), 1);
        Bound.answers(far, "guess(2), 120 steps from the only one", x -> x.guess(2), 0);
        Bound.answers(() -> Scenes.manuscripts(24), "guess(23) of 24", x -> x.guess(23), 22);
    }

    private static void guessesOfNone() {
        Document.terms("-1 if there is none.");
        guessIs(-1, "aaa");
        guessIs(0, "aaa", "bbb");
        Bound.Scene alike = () -> Scenes.written("a", "a", "a");
        Bound.answers(() -> Scenes.withLost(alike.made(), 0, 1), "guess(2), alone", x -> x.guess(2), -1);
        Bound.answers(() -> Scenes.withLost(alike.made(), 1), "guess(2), with 0", x -> x.guess(2), 0);
        Bound.answers(() -> Scenes.withLost(alike.made(), 0), "guess(2), with 1", x -> x.guess(2), 1);
        Bound.answers(() -> Scenes.manuscripts(24), "guess(0) of 24", x -> x.guess(0), -1);
    }

    private static void lengthIs(int want, String... texts) {
        String call = "voteLength() of " + String.join(" ", texts);
        Bound.answers(() -> Scenes.written(texts), call, x -> x.voteLength(), want);
    }

    private static void votesForLength() {
        Document.terms("The length that most manuscripts have that are there, of several the least one.");
        lengthIs(1, "a");
        lengthIs(1, "a", "bb");
        lengthIs(1, "bb", "a");
        lengthIs(2, "bb", "a", "cc");
        lengthIs(1, "bb", "a", "cc", "d");
        lengthIs(2, "bb", "ccc", "aaa", "dd");
        lengthIs(3, "bb", "ccc", "aaa");
        Bound.Scene tie = () -> Scenes.withLost(Scenes.written("bb", "a", "cc", "d"), 1);
        Bound.answers(tie, "voteLength() of two of 2 and one of 1, one lost", x -> x.voteLength(), 2);
        Bound.Scene longest = () -> Scenes.withLost(Scenes.shortAndLong(), 0, 1);
        Bound.answers(longest, "voteLength() of an empty one and one of 120", x -> x.voteLength(), 0);
        Bound.Scene nearly = () -> Scenes.withLost(Scenes.nearlyFull(1), 0);
        Bound.answers(nearly, "voteLength() of one of 119 and one of 120", x -> x.voteLength(), 119);
        Bound.Scene more = () -> {
            CopyHouse x = nearly.made();
            x.copy(1, x.addScribe());
            return x;
        };
        Bound.answers(more, "voteLength() with one more of 120", x -> x.voteLength(), 120);
    }

    private static void votedIs(String want, String... texts) {
        CopyHouse x = Scenes.written(texts);
        Check.due("what is voted for of " + String.join(" ", texts), Desk.voted(x), want);
    }

    private static void votesForLetters() {
        Document.terms("For a place, 0 to this length less 1: the letter that most manuscripts of this length that are"
                + " there have at it, of several the first one of the alphabet.");
        votedIs("a", "a");
        votedIs("z", "z");
        votedIs("a", "z", "a");
        votedIs("y", "z", "y");
        votedIs("z", "z", "a", "z");
        votedIs("a", "z", "a", "z", "a");
        votedIs("az", "zz", "ab", "az");
        votedIs("b", "bb", "b", "aa", "c");
        votedIs("b", "c", "aaa", "b", "aaa", "d");
        Bound.Scene lost = () -> Scenes.withLost(Scenes.written("a", "b", "b"), 1);
        Bound.answers(lost, "vote(0) of a and b, a b is lost", x -> x.vote(0), 'a');
        Bound.numbersOf("vote of 3", () -> Scenes.written("abc"), 3, (x, place) -> x.vote(place));
        Bound.numbersOf("vote of 120", Scenes::shortAndLong, 120, (x, place) -> x.vote(place));
        CopyHouse x = Scenes.manuscripts(24);
        Check.due("what is voted for of 24", Desk.voted(x), "abca");
    }
}
