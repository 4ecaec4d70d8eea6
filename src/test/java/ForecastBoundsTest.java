import java.math.BigInteger;

/** Promises 19 to 25, sentence by sentence: what they say of boundaries. */
final class ForecastBoundsTest {
    private static final Class<IllegalArgumentException> BAD = IllegalArgumentException.class;

    public static void main(String[] args) {
        voteLength();
        vote();
        voteRefused();
        voteDistance();
        voteDistanceRefused();
        trialChangesNothing();
        trialTimes();
        trialTells();
        trialRefused();
        adviseTies();
        adviseReturns();
        adviseRefused();
        decay();
        digestOfNothing();
        digestWrapsAround();
        withoutBoundaries();
        Document.nothingLeft(19, 25);
        Check.end();
    }

    private static void withoutBoundaries() {
        Document.noBoundary("Promise 20", "- `place`: a place");
        Document.noBoundary("Promise 21", "- `manuscript`: a manuscript");
        Document.noBoundary("Promise 22", "- `exemplar`: the manuscript", "- `scribe`: the scribe", "Returns this.");
        Document.noBoundary("Promise 23", "- `exemplar`: the manuscript");
        Document.noBoundary("Promise 25", "Computes a checksum.", "Returns d.");
    }

    private static void voteLength() {
        Document.promise(19, "Returns the length that is voted for; 0 if no manuscript is there.");
        lengthIs(Scenes::empty, "nothing", 0);
        lengthIs(() -> Scenes.written("a"), "one letter", 1);
        lengthIs(() -> Scenes.withLost(Scenes.written("a"), 0), "one, that is lost", 0);
        lengthIs(() -> Scenes.withLost(Scenes.manuscripts(24), 0, 22), "22 of 24", 4);
        lengthIs(() -> allLost(Scenes.manuscripts(24)), "24 that are lost", 0);
        lengthIs(() -> Scenes.withLost(Scenes.shortAndLong(), 0, 3), "two of 120 letters", 120);
        lengthIs(() -> Scenes.withLost(Scenes.shortAndLong(), 0, 1, 2), "an empty text", 0);
        lengthIs(() -> Scenes.withLost(Scenes.shortAndLong(), 0, 1), "one of 120, and an empty text", 0);
        lengthIs(Scenes::shortAndLong, "two of 120, one of 60, and an empty text", 120);
    }

    private static void lengthIs(Bound.Scene scene, String name, int want) {
        Bound.answers(scene, "voteLength() of " + name, x -> x.voteLength(), want);
    }

    private static CopyHouse allLost(CopyHouse x) {
        int many = x.count(0);
        for (int i = 0; i < many; i++) {
            if (x.manuscript(i, 4) == 1) {
                x.lose(i);
            }
        }
        return x;
    }

    private static void vote() {
        Document.promise(20, "Returns the byte that is voted for there.");
        voteIs(() -> Scenes.written("a"), 0, 'a');
        voteIs(() -> Scenes.written("z"), 0, 'z');
        voteIs(() -> Scenes.written("azz", "azq", "zqz"), 0, 'a');
        voteIs(() -> Scenes.written("azz", "azq", "zqz"), 1, 'z');
        voteIs(() -> Scenes.written("azz", "azq", "zqz"), 2, 'z');
        Bound.Scene longOnes = () -> Scenes.withLost(Scenes.shortAndLong(), 0, 3);
        voteIs(longOnes, 0, 'a');
        voteIs(longOnes, 119, 'b');
        voteIs(() -> Scenes.withLost(Scenes.shortAndLong(), 0, 1, 3), 119, 'z');
    }

    private static void voteIs(Bound.Scene scene, int place, int want) {
        Bound.answers(scene, "vote(" + place + ")", x -> x.vote(place), want);
    }

    private static void voteRefused() {
        Document.promise(20, "Throws `IndexOutOfBoundsException` if place is not 0 to the length that is voted for,"
                + " less 1");
        Bound.numbersOf("vote of nothing", Scenes::empty, 0, (x, place) -> x.vote(place));
        Bound.numbersOf("vote of lost ones", () -> allLost(Scenes.manuscripts(3)), 0, (x, place) -> x.vote(place));
        Bound.numbersOf("vote of an empty text", () -> Scenes.withLost(Scenes.shortAndLong(), 0, 1, 2), 0,
                (x, place) -> x.vote(place));
        Bound.numbersOf("vote of 1", () -> Scenes.written("a"), 1, (x, place) -> x.vote(place));
        Bound.numbersOf("vote of 2, 3 and 3", () -> Scenes.written("ab", "abc", "abd"), 3, (x, place) -> x.vote(place));
        Bound.numbersOf("vote of 2 and 3", () -> Scenes.written("abc", "ab"), 2, (x, place) -> x.vote(place));
        Bound.numbersOf("vote of 120", Scenes::shortAndLong, 120, (x, place) -> x.vote(place));
    }

    private static void voteDistance() {
        Document.promise(21, "Returns the distance of its text from the row of all letters that are voted for.");
        farFromVote(() -> Scenes.written("a"), 0, 0);
        farFromVote(() -> Scenes.withLost(Scenes.written("abc"), 0), 0, 3);
        farFromVote(() -> allLost(Scenes.shortAndLong()), 1, 120);
        farFromVote(() -> allLost(Scenes.shortAndLong()), 3, 0);
        farFromVote(Scenes::shortAndLong, 1, 0);
        farFromVote(Scenes::shortAndLong, 2, 120);
        farFromVote(Scenes::shortAndLong, 3, 120);
        farFromVote(Scenes::shortAndLong, 0, 60);
        farFromVote(() -> Scenes.withLost(Scenes.shortAndLong(), 0, 1), 2, 120);
        // Put together of several texts, the row may be none of them.
        farFromVote(() -> Scenes.written("abx", "ayc", "zbc"), 0, 1);
        farFromVote(() -> Scenes.written("abx", "ayc", "zbc"), 1, 1);
        farFromVote(() -> Scenes.withLost(Scenes.written("abx", "ayc", "zbc", "q"), 3), 3, 3);
    }

    private static void farFromVote(Bound.Scene scene, int number, int want) {
        Bound.answers(scene, "voteDistance(" + number + ")", x -> x.voteDistance(number), want);
    }

    private static void voteDistanceRefused() {
        Document.promise(21, "Throws `IndexOutOfBoundsException` if there is no such manuscript");
        Bound.manuscriptsOf("voteDistance", (x, number) -> x.voteDistance(number));
    }

    private static void trialChangesNothing() {
        Document.promise(22, "Tells what a copy would be (nothing is changed).");
        for (int scribe = 0; scribe < 8; scribe++) {
            for (int times : new int[] {1, 20}) {
                for (int what = 0; what < 2; what++) {
                    CopyHouse x = Scenes.full();
                    x.trial(2, scribe, times, what);
                    Check.due("what comes behind a trial", Bound.future(x), Bound.future(Scenes.full()));
                }
            }
        }
        CopyHouse x = Scenes.manuscripts(23);
        x.trial(22, 0, 20, 0);
        Check.due("the number of a copy behind a trial", x.copy(22, 0), 23);
        Bound.answers(Scenes::full, "trial without room for a copy, length", y -> y.trial(2, 1, 1, 0),
                lengthOfCopy(2, 1));
    }

    /** Of one of the full object's origins, made where there is room. */
    private static int lengthOfCopy(int exemplar, int scribe) {
        CopyHouse full = Scenes.full();
        CopyHouse x = Scenes.written(Desk.text(full, exemplar));
        x.addScribe();
        for (int i = 0; i < 5; i++) {
            x.addHabit(0, full.habit(scribe, i, 0), full.habit(scribe, i, 1), full.habit(scribe, i, 2),
                    full.habit(scribe, i, 3));
        }
        return x.manuscript(x.copy(0, 0), 0);
    }

    private static void trialTimes() {
        Document.promise(22, "- `times`: how many times one behind the other the scribe copies, each time what was"
                + " copied ahead");
        Bound.Scene dropper = () -> {
            CopyHouse x = Scenes.written(Desk.repeated("a", 22));
            Desk.scribe(x, Desk.SKIP, 'a', 'a', 1);
            return x;
        };
        for (int times = 1; times <= 20; times++) {
            int one = times;
            Bound.answers(dropper, "length, times " + times, x -> x.trial(0, 0, one, 0), 22 - times);
            Bound.answers(dropper, "distance, times " + times, x -> x.trial(0, 0, one, 1), times);
        }
    }

    private static void trialTells() {
        Document.promise(22, "- `what`: 0 the length of the last one, 1 its distance from the manuscript");
        // Scribe 0 doubles each a and b, 1 changes each, 2 drops each.
        trialIs(0, 0, 1, 120, 60);
        trialIs(0, 0, 2, 120, 60);
        trialIs(1, 0, 20, 120, 0);
        trialIs(1, 1, 1, 120, 120);
        trialIs(1, 1, 20, 120, 120);
        trialIs(1, 2, 1, 0, 120);
        trialIs(1, 2, 2, 0, 120);
        trialIs(3, 0, 1, 0, 0);
        trialIs(3, 2, 20, 0, 0);
        Bound.answers(() -> Scenes.nearlyFull(1), "length of 119 and one more", x -> x.trial(2, 0, 1, 0), 120);
        Bound.answers(() -> Scenes.nearlyFull(1), "distance of 119 and one more", x -> x.trial(2, 0, 1, 1), 1);
        Bound.answers(() -> Scenes.nearlyFull(1), "length of 119 without habits", x -> x.trial(2, x.addScribe(), 20, 0),
                119);
    }

    private static void trialIs(int exemplar, int scribe, int times, int length, int far) {
        String call = "trial(" + exemplar + ", " + scribe + ", " + times + ", ";
        Bound.answers(Scenes::shortAndLong, call + "0)", x -> x.trial(exemplar, scribe, times, 0), length);
        Bound.answers(Scenes::shortAndLong, call + "1)", x -> x.trial(exemplar, scribe, times, 1), far);
    }

    private static void trialRefused() {
        Document.promise(22, "Throws `IndexOutOfBoundsException` if there is no such manuscript or scribe, or what is"
                + " not 0 to 1");
        Bound.manuscriptsOf("trial(.., 0, 1, 0)", (x, number) -> x.trial(number, 0, 1, 0));
        Bound.scribesOf("trial(0, .., 1, 1)", (x, scribe) -> x.trial(0, scribe, 1, 1));
        Bound.numbersOf("trial(0, 0, 1, ..)", Scenes::small, 2, (x, what) -> x.trial(0, 0, 1, what));
        Bound.numbersOf("trial(0, 0, 20, ..)", Scenes::full, 2, (x, what) -> x.trial(0, 0, 20, what));
        Document.promise(22, "Throws `IllegalArgumentException` if times is not 1 to 20");
        Bound.range("trial, times, length", Scenes::small, 1, 20, BAD, (x, times) -> x.trial(0, 0, times, 0));
        Bound.range("trial, times, distance", Scenes::full, 1, 20, BAD, (x, times) -> x.trial(0, 0, times, 1));
        Bound.range("trial, times, no habits", Scenes::small, 1, 20, BAD, (x, times) -> x.trial(0, 1, times, 1));
        Document.promise(22, "Throws `IllegalStateException` if the exemplar is lost");
        Bound.passes(Scenes::small, "trial of one that is there", x -> x.trial(2, 1, 1, 0));
        Bound.badState(Scenes::small, "trial of a lost one", x -> x.trial(3, 1, 1, 0));
        Bound.badState(Scenes::small, "trial of a lost one, 20 times", x -> x.trial(3, 0, 20, 1));
        Bound.passes(Scenes::small, "trial of one behind a lost one", x -> x.trial(4, 1, 1, 0));
        Bound.badState(Scenes::full, "trial of a lost one without room", x -> x.trial(20, 7, 1, 0));
    }

    private static void adviseTies() {
        Document.promise(23, "Looks for the scribe whose copy of a manuscript would have the least distance from it;"
                + " of several that with the smallest number.");
        // Scribe i of these changes each (1 + i)th a: of two letters a two, one, and none from the third scribe on.
        for (int many = 1; many <= 8; many++) {
            int one = many;
            Bound.answers(() -> Scenes.scribes(one), "advise(0) of " + many, x -> x.advise(0), Math.min(many - 1, 2));
        }
        Bound.answers(() -> withChangers(8, 1), "advise(0) of 8 that are alike", x -> x.advise(0), 0);
        Bound.answers(() -> withChangers(7, 1, 3), "advise(0), the last one is the best", x -> x.advise(0), 7);
        Bound.answers(() -> withChangers(6, 1, 3, 3), "advise(0), the last two are", x -> x.advise(0), 6);
        Bound.answers(() -> withChangers(1, 3, 1, 1), "advise(0), the first one is", x -> x.advise(0), 0);
        // One copy changes three letters c, or two of the letters a; copied once more, it is three in both.
        Bound.Scene once = () -> {
            CopyHouse x = Scenes.written("aaaaaaccc");
            Desk.scribe(x, Desk.CHANGE, 'c', 'd', 1);
            Desk.scribe(x, Desk.CHANGE, 'a', 'b', 3);
            return x;
        };
        Bound.answers(once, "advise(0), one copy counts", x -> x.advise(0), 1);
    }

    /** So many scribes that change each a, then one that changes each nth, for each n. */
    private static CopyHouse withChangers(int many, int first, int... others) {
        CopyHouse x = Scenes.written("abcabc");
        for (int i = 0; i < many; i++) {
            Desk.scribe(x, Desk.CHANGE, 'a', 'b', first);
        }
        for (int n : others) {
            Desk.scribe(x, Desk.CHANGE, 'a', 'b', n);
        }
        return x;
    }

    private static void adviseReturns() {
        Document.promise(23, "Returns this scribe; -1 if there is none.");
        Bound.answers(() -> Scenes.scribes(0), "advise(0) of none", x -> x.advise(0), -1);
        Bound.answers(() -> Scenes.scribes(1), "advise(0) of one", x -> x.advise(0), 0);
        Bound.Scene worst = () -> {
            CopyHouse x = Scenes.shortAndLong();
            x.dropHabit(0, 0);
            x.dropHabit(0, 0);
            Desk.habit(x, 0, Desk.DROP, 'a', 'a', 1);
            Desk.habit(x, 0, Desk.DROP, 'b', 'b', 1);
            return x;
        };
        Bound.answers(worst, "advise(1), all copies are 120 steps away", x -> x.advise(1), 0);
        Bound.answers(Scenes::shortAndLong, "advise(3), an empty text", x -> x.advise(3), 0);
        CopyHouse x = Scenes.full();
        x.advise(2);
        Check.due("what comes behind advise(2)", Bound.future(x), Bound.future(Scenes.full()));
    }

    private static void adviseRefused() {
        Document.promise(23, "Throws `IndexOutOfBoundsException` if there is no such manuscript");
        Bound.manuscriptsOf("advise", (x, number) -> x.advise(number));
        Document.promise(23, "Throws `IllegalStateException` if it is lost");
        Bound.answers(Scenes::small, "advise(2), there", x -> x.advise(2), 1);
        Bound.badState(Scenes::small, "advise(3), lost", x -> x.advise(3));
        Bound.answers(Scenes::small, "advise(4), there", x -> x.advise(4), 1);
        Bound.badState(Scenes::full, "advise(1), lost", x -> x.advise(1));
        Bound.badState(() -> Scenes.withLost(Scenes.scribes(0), 0), "advise(0), lost, no scribes", x -> x.advise(0));
    }

    private static void decay() {
        Document.promise(24, "Returns the mean of the distances of all manuscripts that are there from their origins;"
                + " 0 if there are none.");
        decayIs(Scenes.empty(), "nothing", 0.0);
        decayIs(Scenes.written("a"), "an origin", 0.0);
        decayIs(Scenes.manuscripts(24), "24 origins", 0.0);
        decayIs(Scenes.withLost(Scenes.written("a"), 0), "a lost origin", 0.0);
        decayIs(allLost(Scenes.full()), "24 lost ones", 0.0);
        decayIs(Scenes.shortAndLong(), "0, 60, 120 and 60", 60.0);
        decayIs(Scenes.withLost(Scenes.shortAndLong(), 0), "60, 120 and 60, without the origin", 80.0);
        decayIs(Scenes.withLost(Scenes.shortAndLong(), 2), "0, 60 and 60", 40.0);
        decayIs(Scenes.withLost(Scenes.shortAndLong(), 0, 1, 3), "120 alone", 120.0);
        decayIs(Scenes.withLost(Scenes.shortAndLong(), 1, 2, 3), "the origin alone", 0.0);
        // 1, 3, 7, 15 and 31 steps, and 31 for 18 more: the mean is no whole number.
        decayIs(Scenes.line(), "a line", (1 + 3 + 7 + 15 + 19 * 31) / 24.0);
        decayIs(Scenes.withLost(Scenes.line(), 23), "a line without its end", (1 + 3 + 7 + 15 + 18 * 31) / 23.0);
        CopyHouse farthest = Scenes.withLost(Scenes.shortAndLong(), 0, 3);
        while (farthest.count(0) < 24) {
            farthest.copy(1, 1);
        }
        decayIs(farthest, "60 and 21 times 120 steps", (60 + 21 * 120) / 22.0);
    }

    private static void decayIs(CopyHouse x, String name, double want) {
        Check.due("decay() of " + name, x.decay(), want);
    }

    private static void digestOfNothing() {
        Document.promise(25, "A number d starts with 491; for each of the following numbers x, d becomes d * 31 + x,"
                + " which wraps around as a 64-bit integer:");
        BigInteger none = BigInteger.valueOf(491);
        for (int i = 0; i < 9; i++) {
            none = none.multiply(BigInteger.valueOf(31));
        }
        Check.due("digest() of nothing, below 64 bits", Scenes.empty().digest(), none.longValueExact());
    }

    private static void digestWrapsAround() {
        Document.promise(25, "what count() tells, in its order; for each scribe the number of habits, and for each of"
                + " these what habit() tells, in its order; for each manuscript what manuscript() tells, in its order,"
                + " its guess, and its letters (as bytes); the length that is voted for, and the letters that are.");
        digestIs("nothing", Scenes::empty);
        digestIs("one letter", () -> Scenes.written("z"));
        digestIs("a lost one", () -> Scenes.withLost(Scenes.written("z"), 0));
        digestIs("an empty text", () -> Scenes.withLost(Scenes.shortAndLong(), 0, 1, 2));
        digestIs("a scribe without habits", () -> Scenes.scribes(0));
        digestIs("8 scribes", () -> Scenes.scribes(8));
        digestIs("bytes that are no letters", () -> Scenes.fed(-1, -1, -1, -1, -1));
        digestIs("small", Scenes::small);
        digestIs("line", Scenes::line);
        digestIs("full", Scenes::full);
        digestIs("all lost", () -> allLost(Scenes.full()));
        digestIs("120 letters", Scenes::shortAndLong);
    }

    /** Also by numbers that do not wrap around, of which 64 bits are taken in the end. */
    private static void digestIs(String name, Bound.Scene scene) {
        BigInteger d = BigInteger.valueOf(491);
        for (int x : Desk.digested(scene)) {
            d = d.multiply(BigInteger.valueOf(31)).add(BigInteger.valueOf(x));
        }
        Check.due("digest() of " + name, scene.made().digest(), d.longValue());
        CopyHouse again = scene.made();
        again.digest();
        Check.due("digest() of " + name + ", again", again.digest(), d.longValue());
    }
}
