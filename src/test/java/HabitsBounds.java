/** What 'Terms' says of habits, sentence by sentence, of boundaries; run by TermsBoundsTest. */
final class HabitsBounds {
    private static final String DOUBLE = "2, double: each nth a is written twice, as long as the text has fewer than"
            + " 120 letters then (all that stand ahead, as they are by then, and all that follow, counted).";
    private static final String SWAP = "4, swap: each nth time that b stands behind an a, they change places; it is"
            + " looked for from the left, and goes on behind both (whether they change places or not).";

    private HabitsBounds() {
    }

    static void all() {
        change();
        drop();
        doubling();
        doublingNearlyFullTexts();
        doublingOtherTexts();
        skip();
        skipOnce();
        swap();
        swapGoesOnBehindBoth();
        order();
        counting();
    }

    private static void made(String text, int kind, char a, char b, int n, String want) {
        String call = "copy of " + text + ", kind " + kind + ", " + a + ", " + b + ", " + n;
        Check.due(call, Desk.copied(text, kind, a, b, n), want);
    }

    /**
     * For each n, one less, as many, and one more than n and than 2n of what counts: it becomes another
     * thing at the nth time and the 2nth, else it stays. 'between' stands around each.
     */
    private static void eachNth(int kind, char a, char b, String counts, String becomes, String between) {
        for (int n = 1; n <= 9; n++) {
            for (int many : new int[] {0, n - 1, n, n + 1, 2 * n - 1, 2 * n, 2 * n + 1}) {
                StringBuilder text = new StringBuilder(between);
                StringBuilder want = new StringBuilder(between);
                for (int i = 1; i <= many; i++) {
                    boolean hit = i == n || i == 2 * n || n == 1;
                    text.append(counts).append(between);
                    want.append(hit ? becomes : counts).append(between);
                }
                if (text.length() > 0 && text.length() <= 60) {
                    made(text.toString(), kind, a, b, n, want.toString());
                }
            }
        }
    }

    private static void change() {
        Document.terms("0, change: each nth a becomes b (the nth, the 2nth, and so on, of all a that stand in the"
                + " text).");
        eachNth(0, 'a', 'b', "a", "b", "");
        eachNth(0, 'a', 'b', "a", "b", "b");
        eachNth(0, 'a', 'z', "a", "z", "b");
        eachNth(0, 'z', 'a', "z", "a", "yx");
        eachNth(0, 'm', 'm', "m", "m", "q");
        made("a", 0, 'a', 'b', 1, "b");
        made("b", 0, 'a', 'b', 1, "b");
        made("b", 0, 'a', 'c', 1, "b");
        made(Desk.repeated("a", 60), 0, 'a', 'b', 9, Desk.repeated("aaaaaaaab", 6) + "aaaaaa");
        made(Desk.repeated("a", 60), 0, 'a', 'b', 6, Desk.repeated("aaaaab", 10));
    }

    private static void drop() {
        Document.terms("1, drop: each nth a is left out.");
        eachNth(1, 'a', 'a', "a", "", "");
        eachNth(1, 'a', 'b', "a", "", "b");
        eachNth(1, 'z', 'a', "z", "", "yx");
        made("a", 1, 'a', 'a', 1, "");
        made("b", 1, 'a', 'b', 1, "b");
        made(Desk.repeated("a", 60), 1, 'a', 'b', 1, "");
        made(Desk.repeated("a", 60), 1, 'a', 'b', 9, Desk.repeated("a", 54));
        Bound.Scene empty = () -> withHabits(Scenes.shortAndLong(), 1, 'a', 1);
        Bound.makes(empty, "a copy of an empty text", x -> x.copy(3, 3), "");
    }

    private static CopyHouse withHabits(CopyHouse x, int kind, char a, int... numbers) {
        int scribe = x.addScribe();
        for (int n : numbers) {
            Desk.habit(x, scribe, kind, a, a, n);
        }
        return x;
    }

    private static void doubling() {
        Document.terms(DOUBLE);
        eachNth(2, 'a', 'a', "a", "aa", "");
        eachNth(2, 'a', 'b', "a", "aa", "b");
        eachNth(2, 'z', 'a', "z", "zz", "yx");
        made("a", 2, 'a', 'a', 1, "aa");
        made("b", 2, 'a', 'b', 1, "b");
    }

    /** With 115 to 120 letters there is room for 5 to none; the first ones are written twice. */
    private static void doublingNearlyFullTexts() {
        Document.terms(DOUBLE);
        String rest = Desk.repeated("aabb", 25);
        nearlyFull(0, 'a', 1, Desk.repeated("aabb", 5) + rest);
        nearlyFull(1, 'a', 1, "aaab" + Desk.repeated("aabb", 4) + rest);
        nearlyFull(1, 'a', 2, "aaab" + Desk.repeated("aabb", 4) + rest);
        nearlyFull(1, 'b', 1, "aabb" + Desk.repeated("aabb", 4) + rest);
        nearlyFull(1, 'b', 2, "aab" + "aabbb" + Desk.repeated("aabb", 3) + rest);
        nearlyFull(2, 'a', 1, "aaaab" + "aab" + Desk.repeated("aabb", 3) + rest);
        nearlyFull(2, 'a', 2, "aaab" + "aaab" + Desk.repeated("aabb", 3) + rest);
        nearlyFull(2, 'a', 3, "aab" + "aaab" + "aaabb" + Desk.repeated("aabb", 2) + rest);
        nearlyFull(2, 'c', 1, "aab" + "aab" + Desk.repeated("aabb", 3) + rest);
        nearlyFull(3, 'a', 1, "aaaab" + "aaab" + "aab" + Desk.repeated("aabb", 2) + rest);
        nearlyFull(3, 'a', 9, "aabaabaab" + "aabb" + "aaabb" + "aabbaabbaabb" + "aaabb" + "aabbaabbaabbaabb" + "aaabb"
                + Desk.repeated("aabb", 16));
        nearlyFull(5, 'b', 1, Desk.repeated("aabb", 5) + rest);
    }

    private static void nearlyFull(int missing, char a, int n, String want) {
        Bound.Scene scene = () -> withHabits(Scenes.nearlyFull(missing), 2, a, n);
        Bound.makes(scene, "each " + n + ". " + a + " twice, " + missing + " less than 120", x -> x.copy(2, 2), want);
    }

    /** What was not doubled for want of room is not doubled later, when there is room. */
    private static void doublingOtherTexts() {
        Document.terms(DOUBLE);
        made(Desk.repeated("a", 60), 2, 'a', 'a', 1, Desk.repeated("a", 120));
        made(Desk.repeated("a", 59), 2, 'a', 'a', 1, Desk.repeated("a", 118));
        made(Desk.repeated("a", 59) + "b", 2, 'a', 'a', 1, Desk.repeated("a", 118) + "b");
        Bound.Scene full = () -> {
            CopyHouse x = Scenes.nearlyFull(0);
            int scribe = x.addScribe();
            Desk.habit(x, scribe, Desk.DOUBLE, 'a', 'a', 1);
            Desk.habit(x, scribe, Desk.DROP, 'b', 'b', 1);
            Desk.habit(x, scribe, Desk.DOUBLE, 'a', 'a', 1);
            return x;
        };
        Bound.makes(full, "double, drop, double of 120", x -> x.copy(1, 2), Desk.repeated("a", 120));
        Bound.Scene once = () -> {
            CopyHouse x = Scenes.nearlyFull(0);
            int scribe = x.addScribe();
            Desk.habit(x, scribe, Desk.DOUBLE, 'a', 'a', 1);
            Desk.habit(x, scribe, Desk.DROP, 'b', 'b', 1);
            return x;
        };
        Bound.makes(once, "double, drop of 120", x -> x.copy(1, 2), Desk.repeated("a", 60));
    }

    /** The next a stands one less, as many, and one more than n places behind the first one. */
    private static void skip() {
        Document.terms("3, skip: the first a behind which another a stands within the next n places: what stands"
                + " between it and the next a is left out, and this next a, too.");
        for (int n = 1; n <= 9; n++) {
            for (int away : new int[] {n - 1, n, n + 1}) {
                if (away > 0) {
                    String between = Desk.repeated("b", away - 1);
                    String text = "ca" + between + "ac";
                    made(text, 3, 'a', 'z', n, away <= n ? "cac" : text);
                    made("a" + between + "a", 3, 'a', 'z', n, away <= n ? "a" : "a" + between + "a");
                    String farAhead = "a" + Desk.repeated("b", n) + "a" + between + "ac";
                    made(farAhead, 3, 'a', 'z', n, away <= n ? "a" + Desk.repeated("b", n) + "ac" : farAhead);
                }
            }
        }
        made("a", 3, 'a', 'a', 9, "a");
        made("ab", 3, 'a', 'a', 9, "ab");
        made("ba", 3, 'a', 'a', 9, "ba");
        made("bbb", 3, 'a', 'b', 9, "bbb");
        made("aa", 3, 'a', 'a', 1, "a");
        made("zz", 3, 'z', 'a', 9, "z");
        made("aba", 3, 'a', 'b', 9, "a");
        made("abaca", 3, 'a', 'b', 9, "aca");
    }

    private static void skipOnce() {
        Document.terms("Only once in a text.");
        made("aaaa", 3, 'a', 'a', 1, "aaa");
        made("aabaab", 3, 'a', 'a', 1, "abaab");
        made("abababa", 3, 'a', 'a', 2, "ababa");
        made("aaa", 3, 'a', 'a', 9, "aa");
        Bound.Scene twice = () -> withHabits(Scenes.written("aaaa", "aabaab"), 3, 'a', 1, 1);
        Bound.makes(twice, "two such habits, of aaaa", x -> x.copy(0, 0), "aa");
        Bound.makes(twice, "two such habits, of aabaab", x -> x.copy(1, 0), "abab");
        Bound.Scene once = () -> withHabits(Scenes.written("aaaa"), 3, 'a', 1);
        Bound.makes(once, "a copy of a copy", x -> x.copy(x.copy(0, 0), 0), "aa");
        Bound.answers(once, "three times in a trial", x -> x.trial(0, 0, 3, 0), 1);
    }

    private static void swap() {
        Document.terms(SWAP);
        eachNth(4, 'a', 'b', "ab", "ba", "");
        eachNth(4, 'a', 'b', "ab", "ba", "c");
        eachNth(4, 'z', 'a', "za", "az", "yx");
        eachNth(4, 'a', 'a', "aa", "aa", "c");
        made("ab", 4, 'a', 'b', 1, "ba");
        made("ba", 4, 'a', 'b', 1, "ba");
        made("acb", 4, 'a', 'b', 1, "acb");
        made("ca", 4, 'a', 'b', 1, "ca");
        made("a", 4, 'a', 'a', 1, "a");
        made("bca", 4, 'a', 'b', 1, "bca");
    }

    /** What has changed places is not looked at once more, and an a ahead of a pair, or a b behind it, stays. */
    private static void swapGoesOnBehindBoth() {
        Document.terms(SWAP);
        made("abb", 4, 'a', 'b', 1, "bab");
        made("aab", 4, 'a', 'b', 1, "aba");
        made("aabb", 4, 'a', 'b', 1, "abab");
        made("abbabb", 4, 'a', 'b', 2, "abbbab");
        made("aabaab", 4, 'a', 'b', 2, "aababa");
        made("aaa", 4, 'a', 'a', 1, "aaa");
        made("abab", 4, 'b', 'a', 1, "aabb");
        made("aaab", 4, 'a', 'b', 1, "aaba");
        Bound.Scene again = () -> {
            CopyHouse x = Scenes.written("abbb");
            Desk.scribe(x, Desk.SWAP, 'a', 'b', 1);
            Desk.habit(x, 0, Desk.SWAP, 'a', 'b', 1);
            return x;
        };
        Bound.makes(again, "two such habits, of abbb", x -> x.copy(0, 0), "bbab");
    }

    private static void order() {
        Document.terms("A scribe copies a text by all habits in their order: the first one changes the whole text, the"
                + " next one what has become of it, and so on.");
        int[][] habits = {{0, 'a', 'b', 3}, {0, 'a', 'c', 1}, {0, 'b', 'd', 1}, {4, 'c', 'd', 1}, {2, 'd', 'd', 1}};
        String[] made = {"aaaa", "aaba", "ccbc", "ccdc", "cdcc", "cddcc"};
        for (int many = 0; many <= 5; many++) {
            CopyHouse x = Scenes.written("aaaa");
            x.addScribe();
            for (int i = 0; i < many; i++) {
                x.addHabit(0, habits[i][0], habits[i][1] - 'a', habits[i][2] - 'a', habits[i][3]);
            }
            Check.due("a copy of aaaa by " + many + " habits", Desk.text(x, x.copy(0, 0)), made[many]);
            Check.due("the exemplar then", Desk.text(x, 0), "aaaa");
        }
        Bound.Scene full = () -> {
            CopyHouse x = Scenes.nearlyFull(0);
            int scribe = x.addScribe();
            Desk.habit(x, scribe, Desk.CHANGE, 'b', 'a', 1);
            Desk.habit(x, scribe, Desk.CHANGE, 'a', 'c', 1);
            Desk.habit(x, scribe, Desk.CHANGE, 'a', 'd', 1);
            return x;
        };
        Bound.makes(full, "a copy of 120 letters", x -> x.copy(1, 2), Desk.repeated("c", 120));
    }

    private static void counting() {
        Document.terms("In each one n is counted from the beginning of the text.");
        Bound.Scene twice = () -> withHabits(Scenes.written("aaaaa", "aaaaabaa"), 1, 'a', 2, 2);
        Bound.makes(twice, "each second a dropped, twice, of five", x -> x.copy(0, 0), "aa");
        Bound.makes(twice, "each second a dropped, twice, of seven", x -> x.copy(1, 0), "aab");
        Bound.Scene third = () -> withHabits(Scenes.written("aaaaa", "aaaaaaaa"), 1, 'a', 3);
        Bound.makes(third, "each third a dropped, of a copy", x -> x.copy(x.copy(0, 0), 0), "aaa");
        Bound.makes(third, "each third a dropped, of eight", x -> x.copy(1, 0), "aaaaaa");
        Bound.answers(third, "each third a dropped, three times", x -> x.trial(1, 0, 3, 0), 3);
        Bound.Scene swaps = () -> {
            CopyHouse x = Scenes.written("abababab");
            Desk.scribe(x, Desk.SWAP, 'a', 'b', 3);
            Desk.habit(x, 0, Desk.SWAP, 'a', 'b', 3);
            return x;
        };
        Bound.makes(swaps, "each third ab swapped, twice", x -> x.copy(0, 0), "ababbaba");
    }
}
