/** Promises 15 to 18, sentence by sentence: what they say of boundaries. */
final class DescentBoundsTest {
    private static final Class<IllegalArgumentException> BAD = IllegalArgumentException.class;
    private static final int A = 0;
    private static final int B = 1;
    private static final int C = 2;
    private static final int Z = 25;
    private static final int ANY = -1;

    public static void main(String[] args) {
        distance();
        distanceRefused();
        common();
        commonRefused();
        guess();
        guessRefused();
        findFrom();
        findLetters();
        findAnswers();
        findRefused();
        withoutBoundaries();
        Document.nothingLeft(15, 18);
        Check.end();
    }

    private static void withoutBoundaries() {
        Document.noBoundary("Promise 15", "- `a`: a manuscript", "- `b`: a manuscript");
        Document.noBoundary("Promise 16", "- `a`: a manuscript", "- `b`: a manuscript");
        Document.noBoundary("Promise 17", "- `manuscript`: a manuscript");
        Document.noBoundary("Promise 18", "Looks for letters in a manuscript.", "- `manuscript`: the manuscript");
    }

    private static void distance() {
        Document.promise(15, "Returns the distance of their texts.");
        int[][] due = {{0, 60, 120, 60}, {60, 0, 120, 120}, {120, 120, 0, 120}, {60, 120, 120, 0}};
        for (int a = 0; a < 4; a++) {
            for (int b = 0; b < 4; b++) {
                int one = a;
                int other = b;
                String call = "distance(" + a + ", " + b + ")";
                Bound.answers(Scenes::shortAndLong, call, x -> x.distance(one, other), due[a][b]);
                Bound.Scene lost = () -> Scenes.withLost(Scenes.shortAndLong(), 0, 1, 2, 3);
                Bound.answers(lost, call + ", lost", x -> x.distance(one, other), due[a][b]);
            }
        }
        Bound.Scene ends = () -> Scenes.manuscripts(24);
        Bound.answers(ends, "distance(0, 23)", x -> x.distance(0, 23), 1);
        Bound.answers(ends, "distance(23, 0)", x -> x.distance(23, 0), 1);
        Bound.answers(ends, "distance(23, 23)", x -> x.distance(23, 23), 0);
    }

    private static void distanceRefused() {
        Document.promise(15, "Throws `IndexOutOfBoundsException` if there is no such manuscript");
        Bound.manuscriptsOf("distance(.., 0)", (x, number) -> x.distance(number, 0));
        Bound.manuscriptsOf("distance(0, ..)", (x, number) -> x.distance(0, number));
        Bound.manuscriptsOf("distance(.., the same)", (x, number) -> x.distance(number, number));
    }

    private static void common() {
        Document.promise(16, "Returns the manuscript with the greatest generation that is a or one from which a"
                + " descends, and b or one from which b descends; -1 if there is none.");
        int[][] pairs = {{0, 0}, {0, 1}, {0, 23}, {1, 23}, {22, 23}, {23, 23}, {11, 12}};
        for (int[] pair : pairs) {
            commonIs(Scenes::line, pair[0], pair[1], pair[0]);
            commonIs(() -> Scenes.withLost(Scenes.line(), 0, 11, 23), pair[0], pair[1], pair[0]);
        }
        commonIs(() -> Scenes.manuscripts(2), 0, 1, -1);
        commonIs(() -> Scenes.manuscripts(24), 0, 23, -1);
        commonIs(() -> Scenes.manuscripts(24), 23, 23, 23);
        commonIs(DescentBoundsTest::branches, 4, 6, 2);
        commonIs(DescentBoundsTest::branches, 2, 6, 2);
        commonIs(DescentBoundsTest::branches, 3, 6, 0);
        commonIs(DescentBoundsTest::branches, 6, 5, -1);
        commonIs(DescentBoundsTest::branches, 1, 0, -1);
    }

    private static void commonIs(Bound.Scene scene, int a, int b, int want) {
        Bound.answers(scene, "common(" + a + ", " + b + ")", x -> x.common(a, b), want);
        Bound.answers(scene, "common(" + b + ", " + a + ")", x -> x.common(b, a), want);
    }

    /** Origins 0 and 1; 2 and 3 of 0; 4 of 2; 5 of 1; 6 of 2. */
    private static CopyHouse branches() {
        CopyHouse x = Scenes.manuscripts(2);
        for (int exemplar : new int[] {0, 0, 2, 1, 2}) {
            x.copy(exemplar, 0);
        }
        return x;
    }

    private static void commonRefused() {
        Document.promise(16, "Throws `IndexOutOfBoundsException` if there is no such manuscript");
        Bound.manuscriptsOf("common(.., 0)", (x, number) -> x.common(number, 0));
        Bound.manuscriptsOf("common(0, ..)", (x, number) -> x.common(0, number));
        Bound.manuscriptsOf("common(.., the same)", (x, number) -> x.common(number, number));
    }

    private static void guess() {
        Document.promise(17, "Returns its guess; -1 also if it is lost.");
        Bound.answers(() -> Scenes.manuscripts(24), "guess(23)", x -> x.guess(23), 22);
        Bound.answers(() -> Scenes.manuscripts(24), "guess(0)", x -> x.guess(0), -1);
        Bound.answers(() -> Scenes.manuscripts(24), "guess(1)", x -> x.guess(1), 0);
        Bound.answers(() -> Scenes.withLost(Scenes.manuscripts(24), 23), "guess(23), lost", x -> x.guess(23), -1);
        Bound.answers(() -> Scenes.withLost(Scenes.manuscripts(24), 22), "guess(22), lost", x -> x.guess(22), -1);
        Bound.answers(() -> Scenes.withLost(Scenes.manuscripts(24), 22), "guess(23), 22 lost", x -> x.guess(23), 21);
        Bound.answers(() -> Scenes.withLost(Scenes.manuscripts(2), 0), "guess(1), 0 lost", x -> x.guess(1), -1);
        Bound.answers(() -> Scenes.withLost(Scenes.manuscripts(2), 1), "guess(0), 1 lost", x -> x.guess(0), -1);
    }

    private static void guessRefused() {
        Document.promise(17, "Throws `IndexOutOfBoundsException` if there is no such manuscript");
        Bound.manuscriptsOf("guess", (x, number) -> x.guess(number));
    }

    private static void found(String text, int from, int a, int b, int want) {
        Bound.Scene scene = () -> Scenes.written(text);
        String call = "find(0, " + from + ", " + a + ", " + b + ") of " + text;
        Bound.answers(scene, call, x -> x.find(0, from, a, b), want);
    }

    private static void findFrom() {
        Document.promise(18, "- `from`: the place from which on");
        found("zaaz", 0, A, ANY, 1);
        found("zaaz", 1, A, ANY, 1);
        found("zaaz", 2, A, ANY, 2);
        found("zaaz", 3, A, ANY, -1);
        found("zaaz", 0, Z, ANY, 0);
        found("zaaz", 1, Z, ANY, 3);
        found("zaaz", 3, Z, ANY, 3);
        found("zaaz", 4, Z, ANY, -1);
        found("zaaz", 5, Z, ANY, -1);
        found("zaaz", Integer.MAX_VALUE - 1, Z, ANY, -1);
        found("zaaz", Integer.MAX_VALUE, Z, A, -1);
        Bound.answers(Scenes::shortAndLong, "find from 119 of 120", x -> x.find(1, 119, B, ANY), 119);
        Bound.answers(Scenes::shortAndLong, "find from 118 of 120", x -> x.find(1, 118, B, B), 118);
        Bound.answers(Scenes::shortAndLong, "find from 119 of 120, two", x -> x.find(1, 119, B, B), -1);
        Bound.answers(Scenes::shortAndLong, "find from 120 of 120", x -> x.find(1, 120, B, ANY), -1);
        Bound.answers(Scenes::shortAndLong, "find in an empty text", x -> x.find(3, 0, A, ANY), -1);
    }

    private static void findLetters() {
        Document.promise(18, "- `a`: a letter, 0 to 25");
        found("azby", 0, A, ANY, 0);
        found("azby", 0, Z, ANY, 1);
        found("azby", 0, B, ANY, 2);
        found("azby", 0, 24, ANY, 3);
        Document.promise(18, "- `b`: the letter behind it, 0 to 25; -1 for any one, or the end");
        found("aaazab", 0, A, A, 0);
        found("aaazab", 0, A, Z, 2);
        found("aaazab", 0, A, B, 4);
        found("aaazab", 0, A, ANY, 0);
        found("aaazab", 0, A, C, -1);
        found("aaazab", 0, B, ANY, 5);
        found("aaazab", 0, B, A, -1);
        found("aaazab", 0, B, Z, -1);
        found("a", 0, A, ANY, 0);
        found("a", 0, A, A, -1);
    }

    /** What stood behind a text's end when it was longer, or stands there in other ones, does not count. */
    private static void findAnswers() {
        Document.promise(18, "Returns the first place, from this one on, where a stands, with b behind it; -1 if there"
                + " is none.");
        found("ababab", 0, A, B, 0);
        found("ababab", 1, A, B, 2);
        found("ababab", 4, A, B, 4);
        found("ababab", 5, A, B, -1);
        found("bbba", 0, A, B, -1);
        found("bbba", 0, B, A, 2);
        found("bbba", 3, B, A, -1);
        found("qqq", 0, A, ANY, -1);
        Bound.Scene shortened = () -> {
            CopyHouse x = Scenes.written("qab");
            x.copy(0, Desk.scribe(x, Desk.DROP, 'b', 'b', 1));
            return x;
        };
        Bound.answers(shortened, "find in the shorter copy", y -> y.find(1, 0, A, B), -1);
        Bound.answers(shortened, "find at the shorter copy's end", y -> y.find(1, 0, A, ANY), 1);
        Bound.answers(shortened, "find behind the shorter copy's end", y -> y.find(1, 0, B, ANY), -1);
        Bound.Scene lost = () -> Scenes.withLost(shortened.made(), 0);
        Bound.answers(lost, "find in a lost one", y -> y.find(0, 0, A, B), 1);
    }

    private static void findRefused() {
        Document.promise(18, "Throws `IndexOutOfBoundsException` if there is no such manuscript");
        Bound.manuscriptsOf("find(.., 0, 0, -1)", (x, number) -> x.find(number, 0, A, ANY));
        Document.promise(18, "Throws `IllegalArgumentException` if from is less than 0, a is not 0 to 25, or b is not"
                + " -1 to 25");
        for (int number = 0; number < 4; number++) {
            int one = number;
            for (int from : new int[] {-1, -2, -120, Integer.MIN_VALUE, Integer.MIN_VALUE + 1}) {
                Bound.badArgument(Scenes::shortAndLong, "find from " + from, x -> x.find(one, from, A, ANY));
            }
            for (int from : new int[] {0, 1, 119, 120, 121, Integer.MAX_VALUE}) {
                Bound.passes(Scenes::shortAndLong, "find from " + from, x -> x.find(one, from, A, ANY));
            }
            Bound.range("find, a", Scenes::shortAndLong, 0, 25, BAD, (x, a) -> x.find(one, 0, a, B));
            Bound.range("find, a, from the end", Scenes::shortAndLong, 0, 25, BAD, (x, a) -> x.find(one, 120, a, B));
            Bound.range("find, b", Scenes::shortAndLong, -1, 25, BAD, (x, b) -> x.find(one, 0, A, b));
            Bound.range("find, b, from the end", Scenes::shortAndLong, -1, 25, BAD, (x, b) -> x.find(one, 120, A, b));
        }
    }
}
