import java.util.ArrayList;
import java.util.List;

/** What tests do with a CopyHouse again and again, with texts as Strings. */
final class Desk {
    static final int CHANGE = 0;
    static final int DROP = 1;
    static final int DOUBLE = 2;
    static final int SKIP = 3;
    static final int SWAP = 4;

    private Desk() {
    }

    /** The four bytes of a text from this place on as a number; blanks behind its end. */
    static int packed(String text, int place) {
        int number = 0;
        for (int i = place; i < place + 4; i++) {
            number = number << 8 | (i < text.length() ? text.charAt(i) : ' ');
        }
        return number;
    }

    /** Feeds one to sixty letters to an empty tape. */
    static void tape(CopyHouse x, String text) {
        for (int i = 0; i < text.length(); i += 20) {
            x.feed(packed(text, i), packed(text, i + 4), packed(text, i + 8), packed(text, i + 12),
                    packed(text, i + 16));
        }
        x.trim(text.length());
    }

    static int written(CopyHouse x, String text) {
        tape(x, text);
        return x.write();
    }

    static int scribe(CopyHouse x) {
        return x.addScribe();
    }

    static int scribe(CopyHouse x, int kind, char a, char b, int n) {
        int scribe = x.addScribe();
        habit(x, scribe, kind, a, b, n);
        return scribe;
    }

    static int habit(CopyHouse x, int scribe, int kind, char a, char b, int n) {
        return x.addHabit(scribe, kind, a - 'a', b - 'a', n);
    }

    static String text(CopyHouse x, int manuscript) {
        StringBuilder letters = new StringBuilder();
        int length = x.manuscript(manuscript, 0);
        for (int i = 0; i < length; i++) {
            letters.append((char) x.letter(manuscript, i));
        }
        return letters.toString();
    }

    static String voted(CopyHouse x) {
        StringBuilder letters = new StringBuilder();
        int length = x.voteLength();
        for (int i = 0; i < length; i++) {
            letters.append((char) x.vote(i));
        }
        return letters.toString();
    }

    /** What a scribe with this one habit makes of a text of at most 60 letters. */
    static String copied(String text, int kind, char a, char b, int n) {
        CopyHouse x = new CopyHouse();
        return text(x, x.copy(written(x, text), scribe(x, kind, a, b, n)));
    }

    static int distance(String one, String other) {
        CopyHouse x = new CopyHouse();
        return x.distance(written(x, one), written(x, other));
    }

    static String repeated(String text, int times) {
        return text.repeat(times);
    }

    /** The digest by the document's words, from what the other calls tell. */
    static long digestByFace(Bound.Scene scene) {
        long d = 491;
        for (int x : digested(scene)) {
            d = d * 31 + x;
        }
        return d;
    }

    /** What a digest is made of; each part from a fresh object, since all of it may be more than 512 calls. */
    static List<Integer> digested(Bound.Scene scene) {
        List<Integer> all = new ArrayList<Integer>();
        CopyHouse x = scene.made();
        for (int what = 0; what < 8; what++) {
            all.add(x.count(what));
        }
        for (int scribe = 0; scribe < x.count(2); scribe++) {
            addHabits(all, scene.made(), scribe);
        }
        for (int manuscript = 0; manuscript < x.count(0); manuscript++) {
            addManuscript(all, scene.made(), manuscript);
        }
        CopyHouse voter = scene.made();
        all.add(voter.voteLength());
        for (char one : voted(voter).toCharArray()) {
            all.add((int) one);
        }
        return all;
    }

    private static void addHabits(List<Integer> all, CopyHouse x, int scribe) {
        int many = habits(x, scribe);
        all.add(many);
        for (int habit = 0; habit < many; habit++) {
            for (int what = 0; what < 4; what++) {
                all.add(x.habit(scribe, habit, what));
            }
        }
    }

    private static void addManuscript(List<Integer> all, CopyHouse x, int manuscript) {
        for (int what = 0; what < 9; what++) {
            all.add(x.manuscript(manuscript, what));
        }
        all.add(x.guess(manuscript));
        for (char one : text(x, manuscript).toCharArray()) {
            all.add((int) one);
        }
    }

    static int habits(CopyHouse x, int scribe) {
        for (int habit = 0; habit < 6; habit++) {
            try {
                x.habit(scribe, habit, 0);
            } catch (IndexOutOfBoundsException e) {
                return habit;
            }
        }
        return 6;
    }
}
