/** Promise 10's copies: what each kind of habit makes of a text. */
final class HabitsTest {
    public static void main(String[] args) {
        change();
        drop();
        doubling();
        doublingUpToTheLimit();
        doublingNearTheLimit();
        skip();
        swap();
        severalHabits();
        Check.end();
    }

    private static void made(String text, int kind, char a, char b, int n, String want) {
        Check.due("kind " + kind + " " + a + b + n + " of " + text, Desk.copied(text, kind, a, b, n), want);
    }

    private static void change() {
        made("abacada", Desk.CHANGE, 'a', 'z', 1, "zbzczdz");
        made("abacada", Desk.CHANGE, 'a', 'z', 2, "abzcadz");
        made("abacada", Desk.CHANGE, 'a', 'z', 3, "abaczda");
        made("abacada", Desk.CHANGE, 'a', 'z', 4, "abacadz");
        made("abacada", Desk.CHANGE, 'a', 'z', 5, "abacada");
        made("abacada", Desk.CHANGE, 'a', 'a', 1, "abacada");
        made("aaaaaaaaaaaaaaaaaaa", Desk.CHANGE, 'a', 'b', 9, "aaaaaaaabaaaaaaaaba");
        made("zzz", Desk.CHANGE, 'z', 'a', 2, "zaz");
        made("zzz", Desk.CHANGE, 'a', 'z', 1, "zzz");
    }

    private static void drop() {
        made("abacada", Desk.DROP, 'a', 'z', 1, "bcd");
        made("abacada", Desk.DROP, 'a', 'z', 2, "abcad");
        made("abacada", Desk.DROP, 'a', 'z', 3, "abacda");
        made("abacada", Desk.DROP, 'a', 'z', 9, "abacada");
        made("aaaa", Desk.DROP, 'a', 'a', 1, "");
        made("aaaaaa", Desk.DROP, 'a', 'a', 2, "aaa");
    }

    private static void doubling() {
        made("abacada", Desk.DOUBLE, 'a', 'z', 1, "aabaacaadaa");
        made("abacada", Desk.DOUBLE, 'a', 'z', 2, "abaacadaa");
        made("abacada", Desk.DOUBLE, 'a', 'z', 3, "abacaada");
        made("aaaa", Desk.DOUBLE, 'a', 'z', 2, "aaaaaa");
        made("bbb", Desk.DOUBLE, 'a', 'b', 1, "bbb");
    }

    private static void doublingUpToTheLimit() {
        CopyHouse x = new CopyHouse();
        int from = Desk.written(x, Desk.repeated("ab", 30));
        int all = Desk.scribe(x, Desk.DOUBLE, 'a', 'z', 1);
        Desk.habit(x, all, Desk.DOUBLE, 'b', 'z', 1);
        int full = x.copy(from, all);
        Check.due("120 letters", Desk.text(x, full), Desk.repeated("aabb", 30));
        Check.due("no more", Desk.text(x, x.copy(full, all)), Desk.repeated("aabb", 30));
        int oneLess = x.copy(full, Desk.scribe(x, Desk.SKIP, 'b', 'z', 1));
        Check.due("119 letters", Desk.text(x, oneLess), "aab" + Desk.repeated("aabb", 29));
        Check.due("the first one alone is doubled", Desk.text(x, x.copy(oneLess, all)),
                "aaab" + Desk.repeated("aabb", 29));
    }

    private static void doublingNearTheLimit() {
        CopyHouse x = Scenes.nearlyFull(1);
        int all = Scenes.doubler(x);
        int third = Desk.scribe(x, Desk.DOUBLE, 'b', 'z', 3);
        int full = x.copy(2, third);
        Check.due("the third one alone is doubled", Desk.text(x, full),
                "aab" + "aabbb" + Desk.repeated("aabb", 28));
        int some = Desk.written(x, Desk.repeated("a", 50));
        int hundred = x.copy(some, Desk.scribe(x, Desk.DOUBLE, 'a', 'a', 1));
        Check.due("100 letters", x.manuscript(hundred, 0), 100);
        Check.due("20 of 100 are doubled", x.manuscript(x.copy(hundred, all), 0), 120);
        int behind = Desk.scribe(x, Desk.CHANGE, 'a', 'b', 9);
        Check.due("a full text can be changed", x.manuscript(x.copy(full, behind), 0), 120);
    }

    private static void skip() {
        made("abcad", Desk.SKIP, 'a', 'z', 3, "ad");
        made("abcad", Desk.SKIP, 'a', 'z', 2, "abcad");
        made("abcadaea", Desk.SKIP, 'a', 'z', 2, "abcaea");
        made("abcadaea", Desk.SKIP, 'a', 'z', 9, "adaea");
        made("aab", Desk.SKIP, 'a', 'z', 1, "ab");
        made("aaab", Desk.SKIP, 'a', 'z', 9, "aab");
        made("xaxa", Desk.SKIP, 'a', 'z', 2, "xa");
        made("abbbbbbbba", Desk.SKIP, 'a', 'z', 9, "a");
        made("abbbbbbbbba", Desk.SKIP, 'a', 'z', 9, "abbbbbbbbba");
        made("xxxa", Desk.SKIP, 'a', 'z', 9, "xxxa");
        made("xxx", Desk.SKIP, 'a', 'x', 9, "xxx");
        made("abbaba", Desk.SKIP, 'a', 'z', 2, "abba");
    }

    private static void swap() {
        made("abab", Desk.SWAP, 'a', 'b', 1, "baba");
        made("aabb", Desk.SWAP, 'a', 'b', 1, "abab");
        made("abb", Desk.SWAP, 'a', 'b', 1, "bab");
        made("ababab", Desk.SWAP, 'a', 'b', 2, "abbaab");
        made("abxabxabxab", Desk.SWAP, 'a', 'b', 3, "abxabxbaxab");
        made("acbab", Desk.SWAP, 'a', 'b', 1, "acbba");
        made("aaab", Desk.SWAP, 'a', 'b', 1, "aaba");
        made("ba", Desk.SWAP, 'a', 'b', 1, "ba");
        made("a", Desk.SWAP, 'a', 'b', 1, "a");
        made("xa", Desk.SWAP, 'a', 'b', 1, "xa");
        made("aaa", Desk.SWAP, 'a', 'a', 1, "aaa");
        made("thethethe", Desk.SWAP, 't', 'h', 2, "thehtethe");
    }

    private static void severalHabits() {
        CopyHouse x = new CopyHouse();
        int from = Desk.written(x, "abcabc");
        int scribe = Desk.scribe(x, Desk.CHANGE, 'a', 'b', 1);
        Desk.habit(x, scribe, Desk.DROP, 'b', 'b', 2);
        Check.due("the second works on what the first made", Desk.text(x, x.copy(from, scribe)), "bcbc");
        int back = Desk.scribe(x, Desk.DROP, 'b', 'b', 2);
        Desk.habit(x, back, Desk.CHANGE, 'a', 'b', 1);
        Check.due("the other way round", Desk.text(x, x.copy(from, back)), "bbcbc");
        Check.due("the exemplar stays", Desk.text(x, from), "abcabc");
        int none = Desk.scribe(x);
        Check.due("without habits", Desk.text(x, x.copy(from, none)), "abcabc");
        x.dropHabit(scribe, 0);
        Check.due("with a habit less", Desk.text(x, x.copy(from, scribe)), "abcac");
        Check.due("what was copied ahead stays", Desk.text(x, 1), "bcbc");
    }
}
