/** What tests do with a CopyHouse again and again, with texts as Strings. */
final class Desk {
    static final int CHANGE = 0;
    static final int DROP = 1;
    static final int DOUBLE = 2;
    static final int SKIP = 3;
    static final int SWAP = 4;

    private Desk() {
    }

    /** The four bytes of a text from this place on as a number; blanks behind its end. */
    static int packed(String text, int place) {
        int number = 0;
        for (int i = place; i < place + 4; i++) {
            number = number << 8 | (i < text.length() ? text.charAt(i) : ' ');
        }
        return number;
    }

    /** Feeds one to sixty letters to an empty tape. */
    static void tape(CopyHouse x, String text) {
        for (int i = 0; i < text.length(); i += 20) {
            x.feed(packed(text, i), packed(text, i + 4), packed(text, i + 8), packed(text, i + 12),
                    packed(text, i + 16));
        }
        x.trim(text.length());
    }

    static int written(CopyHouse x, String text) {
        tape(x, text);
        return x.write();
    }

    static int scribe(CopyHouse x) {
        return x.addScribe();
    }

    static int scribe(CopyHouse x, int kind, char a, char b, int n) {
        int scribe = x.addScribe();
        habit(x, scribe, kind, a, b, n);
        return scribe;
    }

    static int habit(CopyHouse x, int scribe, int kind, char a, char b, int n) {
        return x.addHabit(scribe, kind, a - 'a', b - 'a', n);
    }

    static String text(CopyHouse x, int manuscript) {
        StringBuilder letters = new StringBuilder();
        for (int i = 0; i < x.manuscript(manuscript, 0); i++) {
            letters.append((char) x.letter(manuscript, i));
        }
        return letters.toString();
    }

    static String voted(CopyHouse x) {
        StringBuilder letters = new StringBuilder();
        for (int i = 0; i < x.voteLength(); i++) {
            letters.append((char) x.vote(i));
        }
        return letters.toString();
    }

    /** What a scribe with this one habit makes of a text of at most 60 letters. */
    static String copied(String text, int kind, char a, char b, int n) {
        CopyHouse x = new CopyHouse();
        return text(x, x.copy(written(x, text), scribe(x, kind, a, b, n)));
    }

    static int distance(String one, String other) {
        CopyHouse x = new CopyHouse();
        return x.distance(written(x, one), written(x, other));
    }

    static String repeated(String text, int times) {
        return text.repeat(times);
    }

    /** The digest by the document's words, from what the other calls tell. */
    static long digestByFace(CopyHouse x) {
        long d = 491;
        for (int what = 0; what < 8; what++) {
            d = d * 31 + x.count(what);
        }
        for (int scribe = 0; scribe < x.count(2); scribe++) {
            d = d * 31 + habits(x, scribe);
            for (int habit = 0; habit < habits(x, scribe); habit++) {
                for (int what = 0; what < 4; what++) {
                    d = d * 31 + x.habit(scribe, habit, what);
                }
            }
        }
        for (int manuscript = 0; manuscript < x.count(0); manuscript++) {
            for (int what = 0; what < 9; what++) {
                d = d * 31 + x.manuscript(manuscript, what);
            }
            d = d * 31 + x.guess(manuscript);
            for (int i = 0; i < x.manuscript(manuscript, 0); i++) {
                d = d * 31 + x.letter(manuscript, i);
            }
        }
        d = d * 31 + x.voteLength();
        for (int i = 0; i < x.voteLength(); i++) {
            d = d * 31 + x.vote(i);
        }
        return d;
    }

    static int habits(CopyHouse x, int scribe) {
        for (int habit = 0; habit < 6; habit++) {
            try {
                x.habit(scribe, habit, 0);
            } catch (IndexOutOfBoundsException e) {
                return habit;
            }
        }
        return 6;
    }
}
