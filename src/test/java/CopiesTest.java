/** Promises 10 to 14: copy, emend, lose, manuscript, count. */
final class CopiesTest {
    private static final int[] OUTSIDE = {Integer.MIN_VALUE, -1, 24, Integer.MAX_VALUE};

    public static void main(String[] args) {
        copy();
        copyWithoutRoom();
        emend();
        emendRefused();
        emendChangesDistances();
        lose();
        manuscript();
        count();
        countOfGuesses();
        Check.end();
    }

    private static void copy() {
        CopyHouse x = new CopyHouse();
        Desk.written(x, "abc");
        Check.noPlace(x, "copy without scribes", () -> x.copy(0, 0));
        Desk.scribe(x, Desk.CHANGE, 'a', 'b', 1);
        for (int one : OUTSIDE) {
            Check.noPlace(x, "copy(" + one + ", 0)", () -> x.copy(one, 0));
            Check.noPlace(x, "copy(0, " + one + ")", () -> x.copy(0, one));
        }
        Check.noPlace(x, "copy(1, 0)", () -> x.copy(1, 0));
        Check.noPlace(x, "copy(0, 1)", () -> x.copy(0, 1));
        Check.due("copy(0, 0)", x.copy(0, 0), 1);
        Check.due("its text", Desk.text(x, 1), "bbc");
        Check.due("copy(1, 0)", x.copy(1, 0), 2);
        x.lose(0);
        Check.badState(x, "copy of a lost one", () -> x.copy(0, 0));
        Check.noPlace(x, "copy of a lost one by no scribe", () -> x.copy(0, 1));
        Check.due("copy(2, 0)", x.copy(2, 0), 3);
        Check.due("generation", x.manuscript(3, 3), 3);
        Desk.tape(x, "xyz");
        x.copy(1, 0);
        Check.due("the tape stays", x.count(5), 3);
    }

    private static void copyWithoutRoom() {
        CopyHouse x = new CopyHouse();
        Desk.written(x, "abc");
        x.addScribe();
        for (int i = 1; i < 24; i++) {
            Check.due("copy " + i, x.copy(i - 1, 0), i);
        }
        Check.badState(x, "copy 25th", () -> x.copy(0, 0));
        Check.noPlace(x, "copy 25th of none", () -> x.copy(24, 0));
        Check.noPlace(x, "copy 25th by none", () -> x.copy(0, 1));
        x.lose(5);
        Check.badState(x, "copy 25th, one is lost", () -> x.copy(0, 0));
        Check.due("generation of the last", x.manuscript(23, 3), 23);
        Check.due("descendants of the first", x.manuscript(0, 6), 23);
        Check.due("count(4)", x.count(4), 23);
    }

    private static void emend() {
        CopyHouse x = new CopyHouse();
        Desk.written(x, "abcdefgh");
        Desk.written(x, "xbxdx");
        Check.due("emend(0, 1, 1, 3)", x.emend(0, 1, 1, 3), 1);
        Check.due("text 0", Desk.text(x, 0), "abxdefgh");
        Check.due("text 1", Desk.text(x, 1), "xbxdx");
        Check.due("emend(0, 1, 1, 3) again", x.emend(0, 1, 1, 3), 0);
        Check.due("emend(0, 1, 0, 5)", x.emend(0, 1, 0, 5), 2);
        Check.due("text 0", Desk.text(x, 0), "xbxdxfgh");
        Check.due("emend(0, 0, 0, 8)", x.emend(0, 0, 0, 8), 0);
        Desk.written(x, "zzzzzzzz");
        Check.due("emend(2, 0, 7, 1)", x.emend(2, 0, 7, 1), 1);
        Check.due("text 2", Desk.text(x, 2), "zzzzzzzh");
        x.addScribe();
        int copy = x.copy(2, 0);
        x.emend(2, 0, 0, 8);
        Check.due("a copy does not follow", Desk.text(x, copy), "zzzzzzzh");
        Check.due("all 120 places", longEmend(), 120);
    }

    private static int longEmend() {
        CopyHouse x = new CopyHouse();
        int a = Desk.written(x, Desk.repeated("a", 60));
        int b = Desk.written(x, Desk.repeated("b", 60));
        int scribe = Desk.scribe(x, Desk.DOUBLE, 'a', 'a', 1);
        Desk.habit(x, scribe, Desk.DOUBLE, 'b', 'b', 1);
        int longA = x.copy(a, scribe);
        int longB = x.copy(b, scribe);
        Check.badArgument(x, "emend with 121", () -> x.emend(longA, longB, 0, 121));
        Check.badArgument(x, "emend from 1 with 120", () -> x.emend(longA, longB, 1, 120));
        return x.emend(longA, longB, 0, 120);
    }

    private static void emendRefused() {
        CopyHouse x = new CopyHouse();
        Desk.written(x, "abcdefgh");
        Desk.written(x, "xbxdx");
        int[] noNumbers = {Integer.MIN_VALUE, -1, 0, 121, Integer.MAX_VALUE};
        for (int many : noNumbers) {
            Check.badArgument(x, "emend, many " + many, () -> x.emend(0, 1, 0, many));
        }
        int[] noPlaces = {Integer.MIN_VALUE, -1, 3, 5, 8, 120, Integer.MAX_VALUE - 2, Integer.MAX_VALUE};
        for (int place : noPlaces) {
            Check.badArgument(x, "emend, place " + place, () -> x.emend(0, 1, place, 3));
            Check.badArgument(x, "emend back, place " + place, () -> x.emend(1, 0, place, 3));
        }
        for (int one : OUTSIDE) {
            Check.noPlace(x, "emend(" + one + ", ..)", () -> x.emend(one, 1, 0, 1));
            Check.noPlace(x, "emend(0, " + one + ", ..)", () -> x.emend(0, one, -1, 0));
        }
        Check.noPlace(x, "emend(2, 0, ..)", () -> x.emend(2, 0, 0, 1));
        Check.noPlace(x, "emend(0, 2, ..)", () -> x.emend(0, 2, 0, 1));
        x.lose(1);
        Check.badState(x, "emend by a lost one", () -> x.emend(0, 1, 0, 1));
        Check.badState(x, "emend of a lost one", () -> x.emend(1, 0, 0, 1));
        Check.badState(x, "emend of a lost one by itself", () -> x.emend(1, 1, 0, 1));
        Check.badArgument(x, "emend by a lost one at no place", () -> x.emend(0, 1, 5, 1));
        Check.badArgument(x, "emend of a lost one with 0", () -> x.emend(1, 0, 0, 0));
        Check.due("text 0", Desk.text(x, 0), "abcdefgh");
        Check.due("text 1", Desk.text(x, 1), "xbxdx");
    }

    private static void emendChangesDistances() {
        CopyHouse x = new CopyHouse();
        Desk.written(x, "aaaa");
        Desk.written(x, "bbbb");
        int scribe = Desk.scribe(x);
        x.copy(1, scribe);
        Check.due("distance(0, 1)", x.distance(0, 1), 4);
        Check.due("distance(1, 0)", x.distance(1, 0), 4);
        Check.due("manuscript(2, 7)", x.manuscript(2, 7), 0);
        x.emend(1, 0, 0, 3);
        Check.due("distance(1, 0) then", x.distance(1, 0), 1);
        Check.due("distance(0, 1) then", x.distance(0, 1), 1);
        Check.due("manuscript(2, 7) then", x.manuscript(2, 7), 3);
        Check.due("manuscript(2, 8) then", x.manuscript(2, 8), 3);
        Check.due("guess(2) then", x.guess(2), 1);
        Check.due("decay() then", x.decay(), 1.0);
        x.emend(0, 2, 0, 2);
        Check.due("distance(1, 0) of aaab and bbaa", x.distance(1, 0), 3);
    }

    private static void lose() {
        CopyHouse x = new CopyHouse();
        for (int one : OUTSIDE) {
            Check.noPlace(x, "lose(" + one + ")", () -> x.lose(one));
        }
        Check.noPlace(x, "lose(0) of none", () -> x.lose(0));
        Desk.written(x, "abc");
        Desk.written(x, "abd");
        Desk.written(x, "abe");
        Check.due("lose(1)", x.lose(1), 2);
        Check.due("there", x.manuscript(1, 4), 0);
        Check.due("count(0)", x.count(0), 3);
        Check.badState(x, "lose(1) again", () -> x.lose(1));
        Check.due("lose(0)", x.lose(0), 1);
        Check.due("lose(2)", x.lose(2), 0);
        Check.noPlace(x, "lose(3)", () -> x.lose(3));
        Check.due("the text is told still", Desk.text(x, 1), "abd");
        Check.due("write() goes on", Desk.written(x, "q"), 3);
    }

    private static void manuscript() {
        CopyHouse x = new CopyHouse();
        Desk.written(x, "quiet");
        Desk.written(x, "abcabc");
        Desk.scribe(x);
        Desk.scribe(x, Desk.DROP, 'a', 'a', 2);
        x.copy(1, 1);
        Desk.habit(x, 0, Desk.CHANGE, 'b', 'z', 1);
        x.copy(2, 0);
        x.copy(1, 0);
        x.copy(3, 1);
        x.lose(3);
        facts(x, 0, 5, -1, -1, 0, 1, 0, 0, 0, 0);
        facts(x, 1, 6, -1, -1, 0, 1, 2, 4, 0, 0);
        facts(x, 2, 5, 1, 1, 1, 1, 1, 2, 1, 1);
        facts(x, 3, 5, 2, 0, 2, 0, 1, 1, 2, 3);
        facts(x, 4, 6, 1, 0, 1, 1, 0, 0, 2, 2);
        facts(x, 5, 5, 3, 1, 3, 1, 0, 0, 0, 3);
        x.lose(5);
        Check.due("lost copies count", x.manuscript(3, 5), 1);
        Check.due("lost ones descend", x.manuscript(1, 6), 4);
        int[] noFacts = {Integer.MIN_VALUE, -1, 9, Integer.MAX_VALUE};
        for (int what : noFacts) {
            Check.noPlace(x, "manuscript(0, " + what + ")", () -> x.manuscript(0, what));
        }
        for (int one : OUTSIDE) {
            Check.noPlace(x, "manuscript(" + one + ", 0)", () -> x.manuscript(one, 0));
        }
        Check.noPlace(x, "manuscript(6, 0)", () -> x.manuscript(6, 0));
    }

    private static void facts(CopyHouse x, int manuscript, int... want) {
        for (int what = 0; what < want.length; what++) {
            Check.due("manuscript(" + manuscript + ", " + what + ")", x.manuscript(manuscript, what), want[what]);
        }
    }

    private static void count() {
        CopyHouse x = new CopyHouse();
        Desk.written(x, "quiet");
        Desk.written(x, "abcabc");
        x.addScribe();
        x.addScribe();
        x.addScribe();
        x.copy(1, 0);
        x.copy(2, 0);
        counts(x, 4, 4, 3, 2, 2, 0, 23, 2);
        x.lose(3);
        x.lose(0);
        Desk.tape(x, "ab");
        counts(x, 4, 2, 3, 2, 2, 2, 12, 1);
        int[] outside = {Integer.MIN_VALUE, -1, 8, Integer.MAX_VALUE};
        for (int what : outside) {
            Check.noPlace(x, "count(" + what + ")", () -> x.count(what));
        }
    }

    private static void counts(CopyHouse x, int... want) {
        for (int what = 0; what < want.length; what++) {
            Check.due("count(" + what + ")", x.count(what), want[what]);
        }
    }

    private static void countOfGuesses() {
        CopyHouse x = new CopyHouse();
        Desk.written(x, "abcabc");
        int same = Desk.scribe(x);
        x.copy(0, same);
        Check.due("count(7): guess 0", x.count(7), 1);
        x.copy(0, same);
        Check.due("count(7): the guess is the copy, not the exemplar", x.count(7), 1);
        x.lose(1);
        Check.due("count(7): the other copy is lost", x.count(7), 1);
        Check.due("guess(2) then", x.guess(2), 0);
        x.lose(0);
        Check.due("count(7): the exemplar is lost", x.count(7), 0);
        Desk.written(x, "abcabc");
        Check.due("count(7): an origin is no copy", x.count(7), 0);
    }
}
