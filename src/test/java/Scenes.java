/** Objects for boundary tests: empty, small, nearly full and full ones. */
final class Scenes {
    /** How many calls have been made on a full object. */
    static final int CALLS_OF_FULL = 5 + 3 + 3 + 5 + 8 + 8 * 5 + 20 + 3 + 4;

    private Scenes() {
    }

    static CopyHouse empty() {
        return new CopyHouse();
    }

    /** So many bytes, all of them letters, on the tape. */
    static CopyHouse taped(int bytes) {
        CopyHouse x = new CopyHouse();
        Desk.tape(x, alphabet(bytes));
        return x;
    }

    static CopyHouse trimmed(int bytes, int kept) {
        CopyHouse x = taped(bytes);
        x.trim(kept);
        return x;
    }

    /** These five numbers on the tape. */
    static CopyHouse fed(int... numbers) {
        CopyHouse x = new CopyHouse();
        x.feed(numbers[0], numbers[1], numbers[2], numbers[3], numbers[4]);
        return x;
    }

    static CopyHouse oneByte(int value) {
        CopyHouse x = fed(value << 24, 0, 0, 0, 0);
        x.trim(1);
        return x;
    }

    static CopyHouse written(String... texts) {
        CopyHouse x = new CopyHouse();
        for (String text : texts) {
            Desk.written(x, text);
        }
        return x;
    }

    /** So many manuscripts, written, of four letters each, a scribe, and something on the tape. */
    static CopyHouse manuscripts(int many) {
        CopyHouse x = new CopyHouse();
        for (int i = 0; i < many; i++) {
            Desk.written(x, "abc" + (char) ('a' + i));
        }
        Desk.scribe(x, Desk.CHANGE, 'a', 'b', 1);
        Desk.tape(x, "tape");
        return x;
    }

    /** A manuscript, and so many scribes with one habit each. */
    static CopyHouse scribes(int many) {
        CopyHouse x = written("abcabc");
        for (int i = 0; i < many; i++) {
            Desk.scribe(x, Desk.CHANGE, 'a', 'b', 1 + i);
        }
        return x;
    }

    /** A manuscript, a scribe without habits, and scribe 1 with so many. */
    static CopyHouse habits(int many) {
        CopyHouse x = scribes(0);
        x.addScribe();
        x.addScribe();
        for (int i = 0; i < many; i++) {
            x.addHabit(1, i, i, i + 10, i + 1);
        }
        return x;
    }

    static CopyHouse withLost(CopyHouse x, int... manuscripts) {
        for (int one : manuscripts) {
            x.lose(one);
        }
        return x;
    }

    /** Manuscripts of 60, 120, 120 and 0 letters: "ab..", "aabb..", "yyzz..", and nothing. */
    static CopyHouse shortAndLong() {
        CopyHouse x = written(Desk.repeated("ab", 30));
        x.copy(0, doubler(x));
        int changer = Desk.scribe(x, Desk.CHANGE, 'a', 'y', 1);
        Desk.habit(x, changer, Desk.CHANGE, 'b', 'z', 1);
        x.copy(1, changer);
        int dropper = Desk.scribe(x, Desk.DROP, 'a', 'a', 1);
        Desk.habit(x, dropper, Desk.DROP, 'b', 'b', 1);
        x.copy(0, dropper);
        return x;
    }

    /** Manuscript 2 has 120 letters, less so many (0 to 5): "aab" as many times, and "aabb" behind these. */
    static CopyHouse nearlyFull(int missing) {
        CopyHouse x = written(Desk.repeated("ab", 30));
        x.copy(0, doubler(x));
        int skipper = x.addScribe();
        for (int i = 0; i < missing; i++) {
            Desk.habit(x, skipper, Desk.SKIP, 'b', 'b', 1);
        }
        x.copy(1, skipper);
        return x;
    }

    /** A scribe that writes each a and b twice. */
    static int doubler(CopyHouse x) {
        int scribe = Desk.scribe(x, Desk.DOUBLE, 'a', 'a', 1);
        Desk.habit(x, scribe, Desk.DOUBLE, 'b', 'b', 1);
        return scribe;
    }

    /** A line of 24 manuscripts, each the copy of the one ahead of it; the first five copies are twice as long. */
    static CopyHouse line() {
        CopyHouse x = written("a");
        int doubler = Desk.scribe(x, Desk.DOUBLE, 'a', 'a', 1);
        int faithful = x.addScribe();
        for (int i = 0; i < 23; i++) {
            x.copy(i, i < 5 ? doubler : faithful);
        }
        return x;
    }

    /** Two origins and three copies, one of them lost, two scribes, of which one has habits, and a tape. */
    static CopyHouse small() {
        CopyHouse x = written("abcab", "babel");
        Desk.scribe(x, Desk.CHANGE, 'a', 'b', 2);
        Desk.habit(x, 0, Desk.DOUBLE, 'b', 'b', 2);
        x.addScribe();
        x.copy(0, 0);
        x.copy(2, 1);
        x.copy(1, 0);
        x.lose(3);
        Desk.tape(x, "xyz");
        return x;
    }

    /** As much as can be: 24 manuscripts, some lost, 8 scribes with 5 habits each, 60 bytes on the tape. */
    static CopyHouse full() {
        CopyHouse x = written(alphabet(60), "quiet", "scriptorium", Desk.repeated("az", 30));
        for (int scribe = 0; scribe < 8; scribe++) {
            x.addScribe();
            for (int i = 0; i < 5; i++) {
                x.addHabit(scribe, (scribe + i) % 5, (scribe * 7 + i) % 26, (scribe + i * 11) % 26,
                        1 + (scribe + i) % 9);
            }
        }
        for (int i = 4; i < 24; i++) {
            x.copy(i * 7 % (i - 2), i % 8);
        }
        withLost(x, 1, 7, 20);
        Desk.tape(x, alphabet(60));
        return x;
    }

    /** a to z, again and again, up to so many letters. */
    static String alphabet(int letters) {
        StringBuilder all = new StringBuilder();
        for (int i = 0; i < letters; i++) {
            all.append((char) ('a' + i % 26));
        }
        return all.toString();
    }
}
