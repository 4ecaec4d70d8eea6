/** Promises 15 to 18: distance, common, guess, find. */
final class DescentTest {
    private static final int[] OUTSIDE = {Integer.MIN_VALUE, -1, 24, Integer.MAX_VALUE};

    public static void main(String[] args) {
        distances();
        distanceOfLongAndEmpty();
        distanceRefused();
        common();
        guess();
        find();
        findRefused();
        Check.end();
    }

    private static void far(String one, String other, int want) {
        Check.due("distance of " + one + " and " + other, Desk.distance(one, other), want);
        Check.due("distance of " + other + " and " + one, Desk.distance(other, one), want);
    }

    private static void distances() {
        far("abc", "abc", 0);
        far("kitten", "sitting", 3);
        far("saturday", "sunday", 3);
        far("abc", "xyz", 3);
        far("a", "z", 1);
        far("a", "aaaa", 3);
        far("abcdef", "bcdefa", 2);
        far("ab", "ba", 2);
        far("aaa", "aa", 1);
        far("abab", "baba", 2);
        far("intention", "execution", 5);
        far("flaw", "lawn", 2);
        far("abcabc", "abc", 3);
        far("xaybz", "ab", 3);
        far(Desk.repeated("a", 60), Desk.repeated("b", 60), 60);
    }

    private static void distanceOfLongAndEmpty() {
        CopyHouse x = new CopyHouse();
        Desk.written(x, Desk.repeated("ab", 30));
        int scribe = Desk.scribe(x, Desk.DOUBLE, 'a', 'a', 1);
        Desk.habit(x, scribe, Desk.DOUBLE, 'b', 'b', 1);
        int full = x.copy(0, scribe);
        int dropper = Desk.scribe(x, Desk.DROP, 'a', 'a', 1);
        Desk.habit(x, dropper, Desk.DROP, 'b', 'b', 1);
        int empty = x.copy(full, dropper);
        int other = Desk.scribe(x, Desk.CHANGE, 'a', 'y', 1);
        Desk.habit(x, other, Desk.CHANGE, 'b', 'z', 1);
        int changed = x.copy(full, other);
        Check.due("full and its origin", x.distance(full, 0), 60);
        Check.due("empty and full", x.distance(empty, full), 120);
        Check.due("full and empty", x.distance(full, empty), 120);
        Check.due("full and changed", x.distance(full, changed), 120);
        Check.due("empty and empty", x.distance(empty, empty), 0);
        x.lose(full);
        Check.due("a lost one has distances too", x.distance(changed, full), 120);
    }

    private static void distanceRefused() {
        CopyHouse x = new CopyHouse();
        Check.noPlace(x, "distance of none", () -> x.distance(0, 0));
        Desk.written(x, "abc");
        for (int one : OUTSIDE) {
            Check.noPlace(x, "distance(0, " + one + ")", () -> x.distance(0, one));
            Check.noPlace(x, "distance(" + one + ", 0)", () -> x.distance(one, 0));
            Check.noPlace(x, "common(0, " + one + ")", () -> x.common(0, one));
            Check.noPlace(x, "common(" + one + ", 0)", () -> x.common(one, 0));
            Check.noPlace(x, "guess(" + one + ")", () -> x.guess(one));
        }
        Check.noPlace(x, "distance(0, 1)", () -> x.distance(0, 1));
        Check.noPlace(x, "common(0, 1)", () -> x.common(0, 1));
        Check.noPlace(x, "common(1, 0)", () -> x.common(1, 0));
        Check.noPlace(x, "guess(1)", () -> x.guess(1));
    }

    /** Two origins: 0 with 2, 3 (of 0), 4 (of 2), 5 (of 2), 6 (of 4); and 1 with 7. */
    private static void common() {
        CopyHouse x = new CopyHouse();
        Desk.written(x, "abc");
        Desk.written(x, "abc");
        x.addScribe();
        int[] exemplars = {0, 0, 2, 2, 4, 1};
        for (int exemplar : exemplars) {
            x.copy(exemplar, 0);
        }
        x.lose(2);
        x.lose(0);
        int[][] want = {
            {0, -1, 0, 0, 0, 0, 0, -1},
            {-1, 1, -1, -1, -1, -1, -1, 1},
            {0, -1, 2, 0, 2, 2, 2, -1},
            {0, -1, 0, 3, 0, 0, 0, -1},
            {0, -1, 2, 0, 4, 2, 4, -1},
            {0, -1, 2, 0, 2, 5, 2, -1},
            {0, -1, 2, 0, 4, 2, 6, -1},
            {-1, 1, -1, -1, -1, -1, -1, 7},
        };
        for (int a = 0; a < 8; a++) {
            for (int b = 0; b < 8; b++) {
                Check.due("common(" + a + ", " + b + ")", x.common(a, b), want[a][b]);
            }
        }
    }

    private static void guess() {
        CopyHouse x = new CopyHouse();
        Desk.written(x, "aaaa");
        Check.due("guess(0)", x.guess(0), -1);
        Desk.written(x, "bbbb");
        Desk.written(x, "aabb");
        Desk.written(x, "abbb");
        Desk.written(x, "zzzz");
        Check.due("guess of the second", x.guess(1), 0);
        Check.due("the greatest number of two", x.guess(2), 1);
        Check.due("the greatest number of two", x.guess(3), 2);
        Check.due("the greatest number of all", x.guess(4), 3);
        x.lose(3);
        Check.due("without the lost one", x.guess(4), 2);
        Check.due("of the lost one", x.guess(3), -1);
        x.lose(1);
        Check.due("without the lost one", x.guess(2), 0);
        x.lose(0);
        Check.due("none is there ahead", x.guess(2), -1);
        Desk.written(x, "aaab");
        Check.due("the least distance, not the last number", x.guess(5), 2);
    }

    private static void find() {
        CopyHouse x = new CopyHouse();
        Desk.written(x, "abacabz");
        Check.due("a", x.find(0, 0, 0, -1), 0);
        Check.due("a from 1", x.find(0, 1, 0, -1), 2);
        Check.due("a from 2", x.find(0, 2, 0, -1), 2);
        Check.due("ac", x.find(0, 0, 0, 2), 2);
        Check.due("ab from 1", x.find(0, 1, 0, 1), 4);
        Check.due("ab from 4", x.find(0, 4, 0, 1), 4);
        Check.due("ab from 5", x.find(0, 5, 0, 1), -1);
        Check.due("z at the end, any behind it", x.find(0, 0, 25, -1), 6);
        Check.due("z at the end, z behind it", x.find(0, 0, 25, 25), -1);
        Check.due("z at the end, a behind it", x.find(0, 0, 25, 0), -1);
        Check.due("d", x.find(0, 0, 3, -1), -1);
        Check.due("from the end", x.find(0, 7, 25, -1), -1);
        Check.due("from far behind", x.find(0, Integer.MAX_VALUE, 25, -1), -1);
        x.lose(0);
        Check.due("in a lost one", x.find(0, 0, 1, 25), 5);
    }

    private static void findRefused() {
        CopyHouse x = new CopyHouse();
        Desk.written(x, "abacabz");
        int[] noLetters = {Integer.MIN_VALUE, -2, 26, 97, Integer.MAX_VALUE};
        for (int letter : noLetters) {
            Check.badArgument(x, "find, a " + letter, () -> x.find(0, 0, letter, 0));
            Check.badArgument(x, "find, b " + letter, () -> x.find(0, 0, 0, letter));
        }
        Check.badArgument(x, "find, a -1", () -> x.find(0, 0, -1, 0));
        Check.badArgument(x, "find, from -1", () -> x.find(0, -1, 0, 0));
        Check.badArgument(x, "find, from the least", () -> x.find(0, Integer.MIN_VALUE, 0, 0));
        for (int one : OUTSIDE) {
            Check.noPlace(x, "find(" + one + ", ..)", () -> x.find(one, -1, 26, 26));
        }
        Check.noPlace(x, "find(1, ..)", () -> x.find(1, 0, 0, 0));
    }
}
