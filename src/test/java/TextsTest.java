/** Promises 1 to 5: a new object, feed, trim, write, letter. */
final class TextsTest {
    private static final int LEAST = Integer.MIN_VALUE;
    private static final int GREATEST = Integer.MAX_VALUE;

    public static void main(String[] args) {
        newObject();
        feed();
        trim();
        write();
        writeOfOtherBytes();
        writeWithoutRoom();
        letter();
        Check.end();
    }

    private static void newObject() {
        CopyHouse x = new CopyHouse();
        for (int what = 0; what < 8; what++) {
            Check.due("new: count(" + what + ")", x.count(what), 0);
        }
        Check.due("new: voteLength()", x.voteLength(), 0);
        Check.due("new: decay()", x.decay(), 0.0);
        Check.due("new: write()", x.write(), -1);
        Check.due("new: trim(0)", x.trim(0), 0);
        Check.noPlace(x, "new: letter(0, 0)", () -> x.letter(0, 0));
        Check.noPlace(x, "new: habit(0, 0, 0)", () -> x.habit(0, 0, 0));
        CopyHouse other = new CopyHouse();
        Desk.written(other, "abc");
        other.addScribe();
        Check.due("another object's manuscript counts here", x.count(0), 0);
        Check.due("another object's scribe counts here", x.count(2), 0);
    }

    private static void feed() {
        CopyHouse x = new CopyHouse();
        Check.due("feed 1st", x.feed(0x61626364, 0x65666768, 0x696a6b6c, 0x6d6e6f70, 0x71727374), 20);
        Check.due("feed 2nd", x.feed(0x75767778, 0x797a6162, 0x63646566, 0x6768696a, 0x6b6c6d6e), 40);
        Check.due("feed 3rd", x.feed(0x61616161, 0x61616161, 0x61616161, 0x61616161, 0x6161617a), 60);
        Check.badState(x, "feed 4th", () -> x.feed(1, 2, 3, 4, 5));
        Check.due("trim(41)", x.trim(41), 41);
        Check.badState(x, "feed behind 41", () -> x.feed(1, 2, 3, 4, 5));
        Check.due("count(5)", x.count(5), 41);
        Check.due("trim(40)", x.trim(40), 40);
        Check.due("feed behind 40", x.feed(0x61616161, 0x61616161, 0x61616161, 0x61616161, 0x6161617a), 60);
        Check.due("write()", x.write(), 0);
        Check.due("text", Desk.text(x, 0), "abcdefghijklmnopqrstuvwxyzabcdefghijklmn" + "aaaaaaaaaaaaaaaaaaaz");
    }

    private static void trim() {
        CopyHouse x = new CopyHouse();
        Check.badArgument(x, "trim(1) of nothing", () -> x.trim(1));
        Check.badArgument(x, "trim(-1) of nothing", () -> x.trim(-1));
        Desk.tape(x, "abcdefgh");
        Check.badArgument(x, "trim(9) of 8", () -> x.trim(9));
        Check.badArgument(x, "trim(-1) of 8", () -> x.trim(-1));
        Check.badArgument(x, "trim(least)", () -> x.trim(LEAST));
        Check.badArgument(x, "trim(greatest)", () -> x.trim(GREATEST));
        Check.due("trim(8) of 8", x.trim(8), 8);
        Check.due("trim(3)", x.trim(3), 3);
        Check.badArgument(x, "trim(4) of 3", () -> x.trim(4));
        x.write();
        Check.due("text of the first three", Desk.text(x, 0), "abc");
        Desk.tape(x, "abc");
        Check.due("trim(0)", x.trim(0), 0);
        Check.due("count(5)", x.count(5), 0);
        Check.due("write() of nothing", x.write(), -1);
    }

    private static void write() {
        CopyHouse x = new CopyHouse();
        Check.due("write() with an empty tape", x.write(), -1);
        Check.due("first", Desk.written(x, "a"), 0);
        Check.due("tape behind it", x.count(5), 0);
        Check.due("write() again", x.write(), -1);
        Check.due("second", Desk.written(x, "zz"), 1);
        Check.due("texts", Desk.text(x, 0) + " " + Desk.text(x, 1), "a zz");
        String all = Desk.repeated("abcdefghij", 6);
        Check.due("third", Desk.written(x, all), 2);
        Check.due("sixty letters", Desk.text(x, 2), all);
        Check.due("exemplar of what was written", x.manuscript(2, 1), -1);
        Check.due("scribe of what was written", x.manuscript(2, 2), -1);
    }

    private static void writeOfOtherBytes() {
        int[] bad = {0, 1, 32, 65, 90, 96, 123, 127, 128, 129, 225, 250, 255};
        for (int one : bad) {
            for (int place = 0; place < 20; place += 19) {
                CopyHouse x = new CopyHouse();
                int first = place == 0 ? one << 24 | 0x616161 : 0x61616161;
                int last = place == 0 ? 0x61616161 : 0x61616100 | one;
                x.feed(first, 0x61616161, 0x61616161, 0x61616161, last);
                Check.due("write() with byte " + one, x.write(), -1);
                Check.due("tape behind byte " + one, x.count(5), 0);
                Check.due("manuscripts behind byte " + one, x.count(0), 0);
            }
        }
        CopyHouse x = new CopyHouse();
        x.feed(0x61626320, 0, 0, 0, 0);
        x.trim(3);
        Check.due("write() with the bad bytes trimmed away", x.write(), 0);
        Check.due("its text", Desk.text(x, 0), "abc");
    }

    private static void writeWithoutRoom() {
        CopyHouse x = new CopyHouse();
        for (int i = 0; i < 24; i++) {
            Check.due("write() number " + i, Desk.written(x, "ab"), i);
        }
        Check.badState(x, "write() 25th, with an empty tape", () -> x.write());
        Desk.tape(x, "abc");
        Check.badState(x, "write() 25th", () -> x.write());
        Check.due("the tape stays", x.count(5), 3);
        x.trim(0);
        x.feed(0, 0, 0, 0, 0);
        Check.badState(x, "write() 25th, of bytes that are no letters", () -> x.write());
        Check.due("the tape stays", x.count(5), 20);
        x.lose(3);
        Check.badState(x, "write() 25th, with one lost", () -> x.write());
    }

    private static void letter() {
        CopyHouse x = new CopyHouse();
        Desk.written(x, "az");
        Check.due("letter(0, 0)", x.letter(0, 0), 97);
        Check.due("letter(0, 1)", x.letter(0, 1), 122);
        int[] places = {LEAST, -1, 2, 3, 119, 120, 121, GREATEST};
        for (int place : places) {
            Check.noPlace(x, "letter(0, " + place + ")", () -> x.letter(0, place));
        }
        int[] numbers = {LEAST, -1, 1, 24, GREATEST};
        for (int number : numbers) {
            Check.noPlace(x, "letter(" + number + ", 0)", () -> x.letter(number, 0));
        }
        x.lose(0);
        Check.due("letter of a lost one", x.letter(0, 1), 122);
    }
}
