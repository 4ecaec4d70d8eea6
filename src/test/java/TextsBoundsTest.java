/** Promises 1 to 5, sentence by sentence: what they say of boundaries. */
final class TextsBoundsTest {
    private static final int[] LENGTHS = {1, 2, 19, 20, 21, 59, 60};

    public static void main(String[] args) {
        newObject();
        newObjectsShareNothing();
        feedBytesInOrder();
        feedOtherBytes();
        feedReturns();
        feedRefused();
        trim();
        trimRefused();
        writeEmptiesTheTape();
        writeReturns();
        writeOfEveryByte();
        writeRefused();
        letter();
        letterRefused();
        Document.noBoundary("Promise 5", "- `manuscript`: a manuscript", "- `place`: a place");
        Document.nothingLeft(1, 5);
        Check.end();
    }

    private static long feed(CopyHouse x) {
        return x.feed(0x61626364, 0x65666768, 0x696a6b6c, 0x6d6e6f70, 0x71727374);
    }

    private static void newObject() {
        Document.promise(1, "Creates a scriptorium without manuscripts and scribes, with an empty tape.");
        for (int what = 0; what < 8; what++) {
            int one = what;
            Bound.answers(Scenes::empty, "count(" + what + ")", x -> x.count(one), 0);
        }
        Bound.answers(Scenes::empty, "trim(0)", x -> x.trim(0), 0);
        Bound.badArgument(Scenes::empty, "trim(1)", x -> x.trim(1));
        Bound.answers(Scenes::empty, "write()", x -> x.write(), -1);
        Bound.answers(Scenes::empty, "feed()", TextsBoundsTest::feed, 20);
        Bound.answers(Scenes::empty, "addScribe()", x -> x.addScribe(), 0);
        Bound.noPlace(Scenes::empty, "manuscript(0, 0)", x -> x.manuscript(0, 0));
        Bound.noPlace(Scenes::empty, "dropHabit(0, 0)", x -> x.dropHabit(0, 0));
        Bound.noPlace(Scenes::empty, "addHabit(0, ..)", x -> x.addHabit(0, 0, 0, 0, 1));
        Bound.answers(() -> Scenes.taped(1), "the first write()", x -> x.write(), 0);
    }

    private static void newObjectsShareNothing() {
        Document.promise(1, "Creates a scriptorium");
        CopyHouse first = Scenes.small();
        String ahead = Bound.future(Scenes.small());
        CopyHouse other = Scenes.full();
        other.emend(0, 2, 0, 5);
        other.dropHabit(0, 0);
        other.trim(1);
        Check.due("an object beside another one", Bound.future(first), ahead);
    }

    private static void feedBytesInOrder() {
        Document.promise(2, "Appends twenty bytes to the tape: the four bytes of each number, the highest one first.");
        CopyHouse x = new CopyHouse();
        feed(x);
        feed(x);
        x.write();
        Check.due("the text", Desk.text(x, 0), "abcdefghijklmnopqrst" + "abcdefghijklmnopqrst");
        String[] lines = {
            "- `a`: bytes 1 to 4", "- `b`: bytes 5 to 8", "- `c`: bytes 9 to 12", "- `d`: bytes 13 to 16",
            "- `e`: bytes 17 to 20",
        };
        for (int number = 0; number < 5; number++) {
            Document.promise(2, lines[number]);
            for (int place = 20; place < 40; place++) {
                char due = place - 20 >= number * 4 && place - 20 < number * 4 + 4 ? 'z' : 'a';
                Check.due("byte " + (place - 19), fedWithZ(number).letter(0, place), due);
            }
        }
    }

    /** Twenty bytes, and twenty more, of which those of one number are z, all others a. */
    private static CopyHouse fedWithZ(int number) {
        CopyHouse x = new CopyHouse();
        feed(x);
        int[] all = {0x61616161, 0x61616161, 0x61616161, 0x61616161, 0x61616161};
        all[number] = 0x7a7a7a7a;
        x.feed(all[0], all[1], all[2], all[3], all[4]);
        x.write();
        return x;
    }

    /** A byte above 127 makes its number negative, and is no letter with a sign. */
    private static void feedOtherBytes() {
        Document.promise(2, "the four bytes of each number, the highest one first.");
        int[] numbers = {-1, 0, Integer.MIN_VALUE, Integer.MAX_VALUE, 0xe1616161, 0x6161e161, 0x616161e1, 0x61616180};
        for (int number : numbers) {
            Bound.Scene fed = () -> Scenes.fed(number, number, number, number, number);
            Bound.answers(fed, "count(5) behind feed(" + number + ", ..)", x -> x.count(5), 20);
            Bound.answers(fed, "write() behind feed(" + number + ", ..)", x -> x.write(), -1);
        }
        Bound.Scene lastIsOther = () -> Scenes.fed(0x61616161, 0x61616161, 0x61616161, 0x61616161, 0x61616100);
        Bound.answers(lastIsOther, "write() with a last byte 0", x -> x.write(), -1);
        Bound.Scene trimmed = () -> {
            CopyHouse x = lastIsOther.made();
            x.trim(19);
            return x;
        };
        Bound.answers(trimmed, "write() without the last byte", x -> x.write(), 0);
    }

    private static void feedReturns() {
        Document.promise(2, "Returns the number of bytes of the tape.");
        for (int bytes : new int[] {0, 1, 19, 20, 21, 39, 40}) {
            Bound.answers(() -> Scenes.taped(bytes), "feed() behind " + bytes, TextsBoundsTest::feed, bytes + 20);
        }
    }

    private static void feedRefused() {
        Document.promise(2, "Throws `IllegalStateException` if there would be more than 60");
        Bound.answers(() -> Scenes.taped(39), "feed() behind 39", TextsBoundsTest::feed, 59);
        Bound.answers(() -> Scenes.taped(40), "feed() behind 40", TextsBoundsTest::feed, 60);
        for (int bytes = 41; bytes <= 60; bytes++) {
            int ahead = bytes;
            Bound.badState(() -> Scenes.taped(ahead), "feed() behind " + ahead, TextsBoundsTest::feed);
        }
    }

    private static void trim() {
        Document.promise(3, "Shortens the tape to its first bytes.");
        Document.promise(3, "- `n`: how many are kept");
        Document.promise(3, "Returns n.");
        for (int bytes : LENGTHS) {
            for (int n : new int[] {0, 1, bytes - 1, bytes}) {
                CopyHouse x = Scenes.taped(bytes);
                Check.due("trim(" + n + ") of " + bytes, x.trim(n), n);
                Check.due("bytes behind trim(" + n + ") of " + bytes, x.count(5), n);
                String kept = n == 0 ? "" : Desk.text(x, x.write());
                Check.due("text behind trim(" + n + ") of " + bytes, kept, Scenes.alphabet(n));
            }
        }
        CopyHouse x = Scenes.taped(60);
        x.trim(1);
        feed(x);
        x.write();
        Check.due("what was cut off does not come back", Desk.text(x, 0), "aabcdefghijklmnopqrst");
    }

    private static void trimRefused() {
        Document.promise(3, "Throws `IllegalArgumentException` if n is not 0 to the number of bytes of the tape");
        Bound.range("trim of an empty tape", Scenes::empty, 0, 0, IllegalArgumentException.class, CopyHouse::trim);
        for (int bytes : LENGTHS) {
            Bound.range("trim of " + bytes, () -> Scenes.taped(bytes), 0, bytes, IllegalArgumentException.class,
                    CopyHouse::trim);
        }
        Bound.Scene written = () -> {
            CopyHouse x = Scenes.taped(20);
            x.write();
            return x;
        };
        Bound.badArgument(written, "trim(1) behind write()", x -> x.trim(1));
        Bound.badArgument(() -> Scenes.trimmed(20, 7), "trim(8) behind trim(7)", x -> x.trim(8));
        Bound.answers(() -> Scenes.trimmed(20, 7), "trim(7) behind trim(7)", x -> x.trim(7), 7);
    }

    private static void writeEmptiesTheTape() {
        Document.promise(4, "Writes the tape as a manuscript; the tape is empty then (also if it makes none).");
        for (int bytes : LENGTHS) {
            CopyHouse x = Scenes.taped(bytes);
            Check.due("write() of " + bytes, Desk.text(x, x.write()), Scenes.alphabet(bytes));
            Check.due("bytes then", x.count(5), 0);
            Check.due("write() again", x.write(), -1);
            Check.due("feed() then", feed(x), 20);
        }
        CopyHouse x = Scenes.fed(0, 0, 0, 0, 0);
        Check.due("write() of no letters", x.write(), -1);
        Check.due("bytes then", x.count(5), 0);
        Check.due("manuscripts then", x.count(0), 0);
        Check.due("feed() then", feed(x), 20);
        Check.due("write() then", Desk.text(x, x.write()), "abcdefghijklmnopqrst");
        CopyHouse y = new CopyHouse();
        y.write();
        Check.due("bytes behind write() of nothing", y.count(5), 0);
        Check.due("manuscripts behind write() of nothing", y.count(0), 0);
    }

    private static void writeReturns() {
        Document.promise(4, "Returns its number; -1 if the tape is empty");
        Bound.answers(Scenes::empty, "write() of nothing", x -> x.write(), -1);
        Bound.answers(() -> Scenes.trimmed(60, 0), "write() of nothing left", x -> x.write(), -1);
        Bound.answers(() -> Scenes.taped(1), "write() of one letter", x -> x.write(), 0);
        Bound.answers(() -> Scenes.taped(60), "write() of 60 letters", x -> x.write(), 0);
        for (int many : new int[] {1, 2, 22, 23}) {
            Bound.answers(() -> Scenes.manuscripts(many), "write() behind " + many, x -> x.write(), many);
        }
    }

    private static void writeOfEveryByte() {
        Document.promise(4, "or has a byte that is not a to z.");
        for (int value = 0; value < 256; value++) {
            for (int place : new int[] {0, 1, 2, 3, 10, 19}) {
                int[] all = {0x61616161, 0x61616161, 0x61616161, 0x61616161, 0x61616161};
                int shift = 24 - 8 * (place % 4);
                all[place / 4] = all[place / 4] & ~(255 << shift) | value << shift;
                CopyHouse x = Scenes.fed(all);
                boolean letter = value >= 97 && value <= 122;
                Check.due("write() with the byte " + value + " at " + place, x.write(), letter ? 0 : -1);
                Check.due("manuscripts behind it", x.count(0), letter ? 1 : 0);
            }
        }
        Bound.answers(() -> Scenes.oneByte(96), "write() of 96 alone", x -> x.write(), -1);
        Bound.answers(() -> Scenes.oneByte(97), "write() of 97 alone", x -> x.write(), 0);
        Bound.answers(() -> Scenes.oneByte(122), "write() of 122 alone", x -> x.write(), 0);
        Bound.answers(() -> Scenes.oneByte(123), "write() of 123 alone", x -> x.write(), -1);
    }

    private static void writeRefused() {
        Document.promise(4, "Throws `IllegalStateException` if there are 24 (the tape stays then)");
        Bound.answers(() -> Scenes.manuscripts(22), "write() behind 22", x -> x.write(), 22);
        Bound.answers(() -> Scenes.manuscripts(23), "write() behind 23", x -> x.write(), 23);
        Bound.badState(() -> Scenes.manuscripts(24), "write() behind 24", x -> x.write());
        Bound.badState(Scenes::line, "write() behind 24 of which 23 are copies", x -> x.write());
        Bound.badState(Scenes::full, "write() of 60 bytes behind 24", x -> x.write());
        Bound.Scene lost = () -> Scenes.withLost(Scenes.manuscripts(24), 0, 23);
        Bound.badState(lost, "write() behind 24, some lost", x -> x.write());
        for (int bytes : LENGTHS) {
            CopyHouse x = Scenes.manuscripts(24);
            x.trim(0);
            Desk.tape(x, Scenes.alphabet(bytes));
            Check.due("write()", Bound.told(x, y -> y.write()), IllegalStateException.class.getName());
            Check.due("the tape stays", x.count(5), bytes);
            Check.due("and is as long as it was", x.trim(bytes), bytes);
        }
        Bound.Scene nothing = () -> {
            CopyHouse x = Scenes.manuscripts(24);
            x.trim(0);
            return x;
        };
        Bound.badState(nothing, "write() of nothing behind 24", x -> x.write());
    }

    private static void letter() {
        Document.promise(5, "Returns the byte there.");
        Bound.answers(() -> Scenes.written("a"), "letter(0, 0) of a", x -> x.letter(0, 0), 97);
        Bound.answers(() -> Scenes.written("z"), "letter(0, 0) of z", x -> x.letter(0, 0), 122);
        Bound.answers(() -> Scenes.written("azb"), "letter(0, 0)", x -> x.letter(0, 0), 97);
        Bound.answers(() -> Scenes.written("azb"), "letter(0, 1)", x -> x.letter(0, 1), 122);
        Bound.answers(() -> Scenes.written("azb"), "letter(0, 2)", x -> x.letter(0, 2), 98);
        Bound.answers(() -> Scenes.written(Scenes.alphabet(60)), "letter(0, 59)", x -> x.letter(0, 59), 'a' + 59 % 26);
        Bound.answers(Scenes::shortAndLong, "letter(1, 0)", x -> x.letter(1, 0), 'a');
        Bound.answers(Scenes::shortAndLong, "letter(1, 119)", x -> x.letter(1, 119), 'b');
        Bound.Scene lost = () -> Scenes.withLost(Scenes.shortAndLong(), 2);
        Bound.answers(lost, "letter(2, 119) of a lost one", x -> x.letter(2, 119), 'z');
    }

    private static void letterRefused() {
        Document.promise(5, "Throws `IndexOutOfBoundsException` if there is no such manuscript or place");
        Bound.manuscriptsOf("letter(.., 0)", (x, number) -> x.letter(number, 0));
        Bound.numbersOf("place of 1", () -> Scenes.written("q"), 1, (x, place) -> x.letter(0, place));
        Bound.numbersOf("place of 4", () -> Scenes.manuscripts(3), 4, (x, place) -> x.letter(2, place));
        Bound.numbersOf("place of 60", Scenes::shortAndLong, 60, (x, place) -> x.letter(0, place));
        Bound.numbersOf("place of 120", Scenes::shortAndLong, 120, (x, place) -> x.letter(1, place));
        Bound.numbersOf("place of an empty text", Scenes::shortAndLong, 0, (x, place) -> x.letter(3, place));
        Bound.numbersOf("place of 119", () -> Scenes.nearlyFull(1), 119, (x, place) -> x.letter(2, place));
    }
}
