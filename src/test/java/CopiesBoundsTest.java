/** Promises 10 to 14, sentence by sentence: what they say of boundaries. */
final class CopiesBoundsTest {
    private static final Class<IllegalArgumentException> BAD = IllegalArgumentException.class;
    private static final int MOST = Integer.MAX_VALUE;

    public static void main(String[] args) {
        copyReturns();
        copyRefused();
        emendPlaces();
        emendReturns();
        emendRefusedNumbers();
        emendRefusedPlaces();
        emendRefusedLost();
        lose();
        loseRefused();
        lengthAndOrigin();
        generationAndThere();
        copiesAndDescendants();
        farFromExemplarAndOrigin();
        manuscriptRefused();
        counts();
        countsOfLetters();
        countsOfGuesses();
        countRefused();
        withoutBoundaries();
        Document.nothingLeft(10, 14);
        Check.end();
    }

    private static void withoutBoundaries() {
        Document.noBoundary("Promise 10", "Copies a manuscript.", "- `exemplar`: the manuscript",
                "- `scribe`: the scribe");
        Document.noBoundary("Promise 11", "- `manuscript`: the manuscript", "- `by`: the other one");
        Document.noBoundary("Promise 12", "Loses a manuscript.", "- `manuscript`: the manuscript");
        Document.noBoundary("Promise 13", "- `manuscript`: a manuscript", "Returns this.");
        Document.noBoundary("Promise 14", "Returns this.");
    }

    private static void copyReturns() {
        Document.promise(10, "Returns the number of the copy.");
        for (int many : new int[] {1, 2, 22, 23}) {
            for (int exemplar : new int[] {0, many - 1}) {
                Bound.Scene scene = () -> Scenes.manuscripts(many);
                Bound.answers(scene, "copy(" + exemplar + ", 0) of " + many, x -> x.copy(exemplar, 0), many);
            }
        }
    }

    private static void copyRefused() {
        Document.promise(10, "Throws `IndexOutOfBoundsException` if there is no such manuscript or scribe");
        Bound.manuscriptsOf("copy(.., 0)", (x, number) -> x.copy(number, 0));
        Bound.scribesOf("copy(0, ..)", (x, scribe) -> x.copy(0, scribe));
        Document.promise(10, "Throws `IllegalStateException` if the exemplar is lost, or there are 24");
        Bound.answers(Scenes::small, "copy of one that is there", x -> x.copy(2, 0), 5);
        Bound.badState(Scenes::small, "copy of a lost one", x -> x.copy(3, 0));
        Bound.answers(Scenes::small, "copy of one with a lost copy", x -> x.copy(4, 0), 5);
        Bound.answers(() -> Scenes.manuscripts(22), "copy behind 22", x -> x.copy(0, 0), 22);
        Bound.answers(() -> Scenes.manuscripts(23), "copy behind 23", x -> x.copy(0, 0), 23);
        Bound.badState(() -> Scenes.manuscripts(24), "copy behind 24", x -> x.copy(0, 0));
        Bound.badState(Scenes::line, "copy behind 24, 23 of them copies", x -> x.copy(23, 0));
        Bound.badState(Scenes::full, "copy behind 24, some lost", x -> x.copy(0, 0));
        Bound.badState(Scenes::full, "copy of a lost one behind 24", x -> x.copy(1, 0));
        Bound.Scene allButOne = () -> Scenes.withLost(Scenes.manuscripts(2), 0);
        Bound.answers(allButOne, "copy of the only one there", x -> x.copy(1, 0), 2);
        Bound.badState(allButOne, "copy of the one that is lost", x -> x.copy(0, 0));
    }

    /** Places ahead of the first one and behind the last one stay, and so does the other text. */
    private static void emendPlaces() {
        Document.promise(11, "Emends a manuscript: some of its letters become those of another one at the same"
                + " places.");
        Document.promise(11, "- `place`: the first place");
        Document.promise(11, "- `many`: how many places");
        String ours = "abcdefgh";
        String theirs = "zyxwvutsrq";
        for (int place = 0; place < 8; place++) {
            for (int many = 1; many <= 8 - place; many++) {
                CopyHouse x = Scenes.written(ours, theirs);
                String call = "emend(0, 1, " + place + ", " + many + ")";
                Check.due(call, x.emend(0, 1, place, many), many);
                String due = ours.substring(0, place) + theirs.substring(place, place + many)
                        + ours.substring(place + many);
                Check.due("the text behind " + call, Desk.text(x, 0), due);
                Check.due("the other text behind " + call, Desk.text(x, 1), theirs);
            }
        }
    }

    private static void emendReturns() {
        Document.promise(11, "Returns how many letters are other ones then.");
        Bound.Scene alike = () -> Scenes.written("aaaaaa", "abaaba", "bbbbbb");
        Bound.answers(alike, "emend by itself", x -> x.emend(0, 0, 0, 6), 0);
        Bound.answers(alike, "emend, all places alike", x -> x.emend(0, 1, 2, 2), 0);
        Bound.answers(alike, "emend, one place", x -> x.emend(0, 1, 1, 1), 1);
        Bound.answers(alike, "emend, one of two places", x -> x.emend(0, 1, 0, 2), 1);
        Bound.answers(alike, "emend, two of all places", x -> x.emend(0, 1, 0, 6), 2);
        Bound.answers(alike, "emend, four of all places", x -> x.emend(2, 1, 0, 6), 4);
        Bound.answers(alike, "emend, all places", x -> x.emend(2, 0, 0, 6), 6);
        Bound.answers(Scenes::shortAndLong, "emend, 120 places", x -> x.emend(1, 2, 0, 120), 120);
        Bound.answers(Scenes::shortAndLong, "emend, 119 places", x -> x.emend(1, 2, 1, 119), 119);
        CopyHouse x = Scenes.shortAndLong();
        x.emend(1, 2, 0, 120);
        Check.due("the letters are the same then", x.emend(1, 2, 0, 120), 0);
        Check.due("the last letter then", x.letter(1, 119), 'z');
        emendedDistances();
    }

    private static void emendedDistances() {
        CopyHouse x = Scenes.shortAndLong();
        Check.due("the distance ahead of it", x.distance(1, 2), 120);
        Check.due("that from a third one ahead of it", x.distance(1, 0), 60);
        x.emend(1, 2, 1, 119);
        Check.due("the distance when one letter is another one", x.distance(2, 1), 1);
        Check.due("the same the other way", x.distance(1, 2), 1);
        Check.due("that from a third one", x.distance(1, 0), 119);
        x.emend(2, 1, 0, 1);
        Check.due("the distance when none is", x.distance(1, 2), 0);
    }

    private static void emendRefusedNumbers() {
        Document.promise(11, "Throws `IndexOutOfBoundsException` if there is no such manuscript");
        Bound.manuscriptsOf("emend(.., 0, 0, 1)", (x, number) -> x.emend(number, 0, 0, 1));
        Bound.manuscriptsOf("emend(0, .., 0, 1)", (x, number) -> x.emend(0, number, 0, 1));
        Bound.manuscriptsOf("emend(.., the same, 0, 1)", (x, number) -> x.emend(number, number, 0, 1));
    }

    private static void emendRefusedPlaces() {
        Document.promise(11, "Throws `IllegalArgumentException` if many is not 1 to 120, place is less than 0, or one"
                + " of both texts does not have all these places");
        Bound.Scene scene = Scenes::shortAndLong;
        Bound.range("emend of 120 letters, many", scene, 1, 120, BAD, (x, many) -> x.emend(1, 2, 0, many));
        Bound.range("emend of 60 letters by 120, many", scene, 1, 60, BAD, (x, n) -> x.emend(0, 1, 0, n));
        Bound.range("emend of 120 letters by 60, many", scene, 1, 60, BAD, (x, n) -> x.emend(1, 0, 0, n));
        Bound.range("emend, many from 59", scene, 1, 1, BAD, (x, n) -> x.emend(0, 2, 59, n));
        int[] sizes = {1, 2, 59, 60};
        for (int many : sizes) {
            String call = "emend of " + many + " places, place";
            Bound.range(call + " of 60 by 120", scene, 0, 60 - many, BAD, (x, p) -> x.emend(0, 2, p, many));
            Bound.range(call + " of 120 by 60", scene, 0, 60 - many, BAD, (x, p) -> x.emend(2, 0, p, many));
            Bound.range(call + " of 120 by 120", scene, 0, 120 - many, BAD, (x, p) -> x.emend(1, 2, p, many));
        }
        int[][] sumsThatWrap = {{MOST, 1}, {MOST - 1, 2}, {MOST - 118, 119}, {MOST - 119, 120}, {MOST - 59, 60}};
        for (int[] wrapped : sumsThatWrap) {
            Bound.badArgument(scene, "emend from " + wrapped[0] + " on, " + wrapped[1],
                    x -> x.emend(1, 2, wrapped[0], wrapped[1]));
        }
        Bound.badArgument(scene, "emend from 1 on, the greatest many", x -> x.emend(1, 2, 1, MOST));
        Bound.badArgument(scene, "emend of an empty text", x -> x.emend(3, 1, 0, 1));
        Bound.badArgument(scene, "emend by an empty text", x -> x.emend(1, 3, 0, 1));
        Bound.badArgument(scene, "emend of an empty text by itself", x -> x.emend(3, 3, 0, 1));
    }

    private static void emendRefusedLost() {
        Document.promise(11, "Throws `IllegalStateException` if one of both is lost");
        Bound.Scene first = () -> Scenes.withLost(Scenes.manuscripts(3), 0);
        Bound.badState(first, "emend of a lost one", x -> x.emend(0, 1, 0, 1));
        Bound.badState(first, "emend by a lost one", x -> x.emend(1, 0, 0, 1));
        Bound.badState(first, "emend of a lost one by itself", x -> x.emend(0, 0, 0, 1));
        Bound.answers(first, "emend of one by another, a third is lost", x -> x.emend(1, 2, 3, 1), 1);
        Bound.Scene both = () -> Scenes.withLost(Scenes.manuscripts(3), 0, 1);
        Bound.badState(both, "emend of a lost one by a lost one", x -> x.emend(0, 1, 0, 1));
        Bound.badState(both, "emend by a lost one that is alike", x -> x.emend(2, 1, 0, 3));
        Bound.answers(both, "emend of the one that is there by itself", x -> x.emend(2, 2, 0, 1), 0);
    }

    private static void lose() {
        Document.promise(12, "Returns how many are there then.");
        CopyHouse x = Scenes.manuscripts(24);
        for (int left = 23; left >= 0; left--) {
            int number = (left * 5 + 1) % 24;
            Check.due("lose(" + number + ")", x.lose(number), left);
            Check.due("there then", x.count(1), left);
            Check.due("it is lost then", x.manuscript(number, 4), 0);
        }
        Bound.answers(() -> Scenes.manuscripts(1), "lose(0) of the only one", y -> y.lose(0), 0);
        Bound.answers(() -> Scenes.manuscripts(2), "lose(1) of two", y -> y.lose(1), 1);
    }

    private static void loseRefused() {
        Document.promise(12, "Throws `IndexOutOfBoundsException` if there is no such manuscript");
        Bound.manuscriptsOf("lose", (x, number) -> x.lose(number));
        Document.promise(12, "Throws `IllegalStateException` if it is lost");
        for (int many : new int[] {1, 2, 24}) {
            for (int lost : new int[] {0, many - 1}) {
                Bound.Scene there = () -> Scenes.manuscripts(many);
                Bound.answers(there, "lose(" + lost + ") of " + many, x -> x.lose(lost), many - 1);
                Bound.Scene scene = () -> Scenes.withLost(Scenes.manuscripts(many), lost);
                Bound.badState(scene, "lose(" + lost + ") of " + many + " again", x -> x.lose(lost));
            }
        }
        Bound.answers(Scenes::small, "lose of the exemplar of a lost one", x -> x.lose(2), 3);
        Bound.answers(Scenes::small, "lose of the other ones", x -> x.lose(4), 3);
    }

    private static void fact(Bound.Scene scene, int manuscript, int what, long want) {
        String call = "manuscript(" + manuscript + ", " + what + ")";
        Bound.answers(scene, call, x -> x.manuscript(manuscript, what), want);
    }

    private static void lengthAndOrigin() {
        Document.promise(13, "- `what`: 0 its length, 1 its exemplar, -1 for an origin, 2 its scribe, -1 for an"
                + " origin");
        fact(Scenes::shortAndLong, 0, 0, 60);
        fact(Scenes::shortAndLong, 1, 0, 120);
        fact(Scenes::shortAndLong, 3, 0, 0);
        fact(() -> Scenes.nearlyFull(1), 2, 0, 119);
        fact(() -> Scenes.written("a"), 0, 0, 1);
        fact(() -> Scenes.written("a"), 0, 1, -1);
        fact(() -> Scenes.written("a"), 0, 2, -1);
        fact(() -> Scenes.manuscripts(24), 23, 1, -1);
        fact(() -> Scenes.manuscripts(24), 23, 2, -1);
        fact(Scenes::line, 1, 1, 0);
        fact(Scenes::line, 1, 2, 0);
        fact(Scenes::line, 23, 1, 22);
        fact(Scenes::line, 23, 2, 1);
        CopyHouse x = Scenes.scribes(8);
        x.copy(0, 7);
        Check.due("the last scribe's copy", x.manuscript(1, 2), 7);
        Bound.Scene lost = () -> Scenes.withLost(Scenes.line(), 0, 1);
        fact(lost, 0, 1, -1);
        fact(lost, 1, 1, 0);
        fact(lost, 1, 0, 2);
    }

    private static void generationAndThere() {
        Document.promise(13, ", 3 its generation, 4 1 if it is there, else 0");
        for (int number = 0; number < 24; number++) {
            fact(Scenes::line, number, 3, number);
        }
        fact(() -> Scenes.manuscripts(24), 23, 3, 0);
        fact(Scenes::small, 3, 3, 2);
        fact(Scenes::small, 4, 3, 1);
        fact(Scenes::small, 2, 4, 1);
        fact(Scenes::small, 3, 4, 0);
        fact(Scenes::small, 4, 4, 1);
    }

    private static void copiesAndDescendants() {
        Document.promise(13, ", 5 its copies, 6 all that descend from it (lost ones, too)");
        Bound.Scene lost = () -> Scenes.withLost(Scenes.line(), 0, 10, 23);
        for (Bound.Scene scene : new Bound.Scene[] {Scenes::line, lost}) {
            for (int number : new int[] {0, 1, 9, 10, 22, 23}) {
                fact(scene, number, 5, number == 23 ? 0 : 1);
                fact(scene, number, 6, 23 - number);
            }
        }
        for (int copies : new int[] {0, 1, 22, 23}) {
            Bound.Scene scene = () -> copiesOfOne(copies);
            fact(scene, 0, 5, copies);
            fact(scene, 0, 6, copies);
            fact(scene, copies, 6, 0);
        }
        fact(() -> Scenes.manuscripts(24), 0, 5, 0);
        fact(() -> Scenes.manuscripts(24), 0, 6, 0);
    }

    private static CopyHouse copiesOfOne(int copies) {
        CopyHouse x = Scenes.manuscripts(1);
        for (int i = 0; i < copies; i++) {
            x.copy(0, 0);
        }
        return x;
    }

    private static void farFromExemplarAndOrigin() {
        Document.promise(13, ", 7 its distance from its exemplar (0 for an origin), 8 its distance from its origin");
        fact(Scenes::shortAndLong, 0, 7, 0);
        fact(Scenes::shortAndLong, 0, 8, 0);
        fact(Scenes::shortAndLong, 1, 7, 60);
        fact(Scenes::shortAndLong, 1, 8, 60);
        fact(Scenes::shortAndLong, 2, 7, 120);
        fact(Scenes::shortAndLong, 2, 8, 120);
        fact(Scenes::shortAndLong, 3, 7, 60);
        Bound.Scene nothing = () -> {
            CopyHouse x = Scenes.shortAndLong();
            x.copy(1, 2);
            x.copy(4, 2);
            return x;
        };
        fact(nothing, 4, 7, 120);
        fact(nothing, 4, 8, 60);
        fact(nothing, 5, 7, 0);
        fact(nothing, 5, 8, 60);
        Bound.Scene emended = () -> {
            CopyHouse x = Scenes.manuscripts(2);
            x.emend(0, 1, 3, 1);
            return x;
        };
        fact(emended, 0, 7, 0);
        fact(emended, 0, 8, 0);
        Bound.Scene lost = () -> Scenes.withLost(Scenes.shortAndLong(), 0, 1, 2);
        fact(lost, 0, 7, 0);
        fact(lost, 2, 7, 120);
        fact(lost, 2, 8, 120);
    }

    private static void manuscriptRefused() {
        Document.promise(13, "Throws `IndexOutOfBoundsException` if there is no such manuscript, or what is not 0"
                + " to 8");
        for (int what = 0; what <= 8; what++) {
            int one = what;
            Bound.manuscriptsOf("manuscript(.., " + what + ")", (x, number) -> x.manuscript(number, one));
        }
        Bound.numbersOf("manuscript(0, ..)", () -> Scenes.written("a"), 9, (x, what) -> x.manuscript(0, what));
        Bound.numbersOf("manuscript(23, ..)", Scenes::line, 9, (x, what) -> x.manuscript(23, what));
        Bound.numbersOf("manuscript(1, ..), a lost one", Scenes::full, 9, (x, what) -> x.manuscript(1, what));
    }

    private static void counted(Bound.Scene scene, String name, int what, long want) {
        Bound.answers(scene, name + ", count(" + what + ")", x -> x.count(what), want);
    }

    private static void counts() {
        Document.promise(14, "- `what`: 0 manuscripts, 1 those that are there, 2 scribes, 3 origins, 4 the greatest"
                + " generation (0 without manuscripts; 3 and 4: lost ones, too), 5 bytes of the tape");
        int[] ofNone = {0, 0, 0, 0, 0, 0};
        int[] ofOne = {1, 1, 1, 1, 0, 4};
        int[] ofLine = {24, 24, 2, 1, 23, 0};
        int[] ofFull = {24, 21, 8, 4, -1, 60};
        for (int what = 0; what < 6; what++) {
            counted(Scenes::empty, "empty", what, ofNone[what]);
            counted(() -> Scenes.manuscripts(1), "one", what, ofOne[what]);
            counted(Scenes::line, "line", what, ofLine[what]);
            if (what != 4) {
                counted(Scenes::full, "full", what, ofFull[what]);
            }
        }
        Bound.Scene lost = () -> Scenes.withLost(Scenes.line(), 0, 22, 23);
        counted(lost, "line with lost ones", 0, 24);
        counted(lost, "line with lost ones", 1, 21);
        counted(lost, "line with lost ones", 3, 1);
        counted(lost, "line with lost ones", 4, 23);
        counted(() -> Scenes.manuscripts(24), "origins", 3, 24);
        counted(() -> Scenes.manuscripts(24), "origins", 4, 0);
        counted(() -> Scenes.withLost(Scenes.manuscripts(1), 0), "the only one is lost", 1, 0);
        counted(() -> Scenes.withLost(Scenes.manuscripts(1), 0), "the only one is lost", 3, 1);
        counted(() -> copiesOfOne(1), "a copy", 4, 1);
    }

    private static void countsOfLetters() {
        Document.promise(14, ", 6 the letters of all texts that are there");
        counted(Scenes::empty, "empty", 6, 0);
        counted(() -> Scenes.written("a"), "a letter", 6, 1);
        counted(Scenes::shortAndLong, "60, 120, 120 and none", 6, 300);
        counted(() -> Scenes.withLost(Scenes.shortAndLong(), 1), "120 less", 6, 180);
        counted(() -> Scenes.withLost(Scenes.shortAndLong(), 0, 1, 2), "nothing but an empty one", 6, 0);
        counted(() -> Scenes.withLost(Scenes.shortAndLong(), 3), "the empty one is lost", 6, 300);
        CopyHouse x = Scenes.shortAndLong();
        while (x.count(0) < 24) {
            x.copy(1, 1);
        }
        Check.due("letters of 22 texts of 120, one of 60 and an empty one", x.count(6), 22 * 120 + 60);
    }

    private static void countsOfGuesses() {
        Document.promise(14, ", 7 copies that are there and whose guess is their exemplar");
        counted(Scenes::empty, "empty", 7, 0);
        counted(() -> Scenes.manuscripts(24), "origins", 7, 0);
        counted(() -> Scenes.written("aa", "aa"), "an origin whose guess is an origin", 7, 0);
        counted(() -> copiesOfOne(0), "none", 7, 0);
        counted(() -> copiesOfOne(1), "one copy", 7, 1);
        counted(() -> copiesOfOne(2), "a copy is guessed for the other copy", 7, 1);
        counted(() -> Scenes.withLost(copiesOfOne(2), 1), "the copy that was guessed is lost", 7, 1);
        counted(() -> Scenes.withLost(copiesOfOne(2), 2), "the other copy is lost", 7, 1);
        counted(() -> Scenes.withLost(copiesOfOne(2), 0), "the exemplar is lost", 7, 0);
        counted(() -> Scenes.withLost(copiesOfOne(1), 1), "the only copy is lost", 7, 0);
        counted(Scenes::line, "a line", 7, 23);
        counted(() -> Scenes.withLost(Scenes.line(), 23), "a line without its end", 7, 22);
        counted(() -> Scenes.withLost(Scenes.line(), 22), "a line without the last but one", 7, 21);
        counted(() -> Scenes.withLost(Scenes.line(), 0), "a line without its origin", 7, 22);
    }

    private static void countRefused() {
        Document.promise(14, "Throws `IndexOutOfBoundsException` if what is not 0 to 7");
        Bound.numbersOf("count of nothing", Scenes::empty, 8, (x, what) -> x.count(what));
        Bound.numbersOf("count of some", Scenes::small, 8, (x, what) -> x.count(what));
        Bound.numbersOf("count of all", Scenes::full, 8, (x, what) -> x.count(what));
    }
}
