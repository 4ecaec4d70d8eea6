import java.util.ArrayList;
import java.util.Arrays;

/** A scriptorium where texts are copied, and errors descend. */
public final class CopyHouse {
    private static final int MOST_LETTERS = 120;
    private static final int MOST_TAPE = 60;
    private static final int MOST_MANUSCRIPTS = 24;
    private static final int MOST_SCRIBES = 8;
    private static final int MOST_HABITS = 5;
    private static final int MOST_TIMES = 20;
    private static final int ALPHABET = 26;
    private static final int COUNTS = 8;
    private static final int FACTS = 9;
    private static final int HABIT_PARTS = 4;
    private static final int CHANGE = 0;
    private static final int DROP = 1;
    private static final int DOUBLE = 2;
    private static final int SKIP = 3;
    private static final int SWAP = 4;
    private static final int MOST_N = 9;
    private static final int NONE = -1;
    private static final int NOT_MEASURED = -1;
    private static final long DIGEST_START = 491L;
    private static final long DIGEST_FACTOR = 31L;

    private final int[] tape = new int[MOST_TAPE];
    private int tapeLength = 0;
    private final ArrayList<Manuscript> manuscripts = new ArrayList<Manuscript>();
    private final ArrayList<Scribe> scribes = new ArrayList<Scribe>();

    // Measuring is by far the dearest work, and texts change by emending only:
    // each pair of manuscripts is measured once, and forgotten when one is emended.
    private final int[][] measured = new int[MOST_MANUSCRIPTS][MOST_MANUSCRIPTS];

    // Made once and used again, so that calls make no objects of their own.
    private final Text draft = new Text();
    private final Text spare = new Text();
    private final Text voted = new Text();
    private final int[] stepRow = new int[MOST_LETTERS + 1];
    private final int[] tally = new int[MOST_LETTERS + 1];

    public CopyHouse() {
    }

    // ---- texts

    public int feed(int a, int b, int c, int d, int e) throws IllegalStateException {
        if (tapeLength > MOST_TAPE - 20) {
            throw new IllegalStateException("the tape would be too long");
        }
        feedNumber(a);
        feedNumber(b);
        feedNumber(c);
        feedNumber(d);
        feedNumber(e);
        return tapeLength;
    }

    public int trim(int n) throws IllegalArgumentException {
        if (n < 0 || n > tapeLength) {
            throw new IllegalArgumentException("the tape does not have so many bytes");
        }
        tapeLength = n;
        return n;
    }

    public int write() throws IllegalStateException {
        if (manuscripts.size() >= MOST_MANUSCRIPTS) {
            throw new IllegalStateException("there are enough manuscripts");
        }
        boolean good = tapeIsText();
        if (good) {
            draftFromTape();
        }
        tapeLength = 0;
        return good ? keepDraft(null, NONE) : NONE;
    }

    public int letter(int manuscript, int place) throws IndexOutOfBoundsException {
        Text text = manuscriptOf(manuscript).text;
        if (place < 0 || place >= text.length) {
            throw new IndexOutOfBoundsException("no such place");
        }
        return text.letters[place];
    }

    // ---- scribes

    public int addScribe() throws IllegalStateException {
        if (scribes.size() >= MOST_SCRIBES) {
            throw new IllegalStateException("there are enough scribes");
        }
        scribes.add(new Scribe());
        return scribes.size() - 1;
    }

    public int addHabit(int scribe, int kind, int a, int b, int n)
            throws IndexOutOfBoundsException, IllegalArgumentException, IllegalStateException {
        Scribe one = scribeOf(scribe);
        if (kind < CHANGE || kind > SWAP) {
            throw new IllegalArgumentException("no such kind");
        }
        if (!isLetter(a) || !isLetter(b)) {
            throw new IllegalArgumentException("no such letter");
        }
        if (n < 1 || n > MOST_N) {
            throw new IllegalArgumentException("no such n");
        }
        if (one.habits.size() >= MOST_HABITS) {
            throw new IllegalStateException("the scribe has enough habits");
        }
        one.habits.add(new Habit(kind, a, b, n));
        return one.habits.size();
    }

    public int dropHabit(int scribe, int habit) throws IndexOutOfBoundsException {
        Scribe one = scribeOf(scribe);
        if (habit < 0 || habit >= one.habits.size()) {
            throw new IndexOutOfBoundsException("no such habit");
        }
        one.habits.remove(habit);
        return one.habits.size();
    }

    public int habit(int scribe, int habit, int what) throws IndexOutOfBoundsException {
        Scribe one = scribeOf(scribe);
        if (habit < 0 || habit >= one.habits.size()) {
            throw new IndexOutOfBoundsException("no such habit");
        }
        if (what < 0 || what >= HABIT_PARTS) {
            throw new IndexOutOfBoundsException("a habit has no such part");
        }
        return one.habits.get(habit).part(what);
    }

    // ---- copies

    public int copy(int exemplar, int scribe) throws IndexOutOfBoundsException, IllegalStateException {
        Manuscript from = manuscriptOf(exemplar);
        Scribe one = scribeOf(scribe);
        if (!from.there) {
            throw new IllegalStateException("the exemplar is lost");
        }
        if (manuscripts.size() >= MOST_MANUSCRIPTS) {
            throw new IllegalStateException("there are enough manuscripts");
        }
        draftCopy(from, one, 1);
        return keepDraft(from, scribe);
    }

    public int emend(int manuscript, int by, int place, int many)
            throws IndexOutOfBoundsException, IllegalArgumentException, IllegalStateException {
        Manuscript one = manuscriptOf(manuscript);
        Manuscript other = manuscriptOf(by);
        if (many < 1 || many > MOST_LETTERS) {
            throw new IllegalArgumentException("no such number of places");
        }
        // Not place + many, which could wrap around.
        if (place < 0 || place > one.text.length - many || place > other.text.length - many) {
            throw new IllegalArgumentException("not in both texts");
        }
        if (!one.there || !other.there) {
            throw new IllegalStateException("one of both is lost");
        }
        forgetMeasures(manuscript);
        return one.text.takeFrom(other.text, place, many);
    }

    public int lose(int manuscript) throws IndexOutOfBoundsException, IllegalStateException {
        Manuscript one = manuscriptOf(manuscript);
        if (!one.there) {
            throw new IllegalStateException("it is lost");
        }
        one.there = false;
        return thoseThere();
    }

    public int manuscript(int manuscript, int what) throws IndexOutOfBoundsException {
        Manuscript one = manuscriptOf(manuscript);
        if (what < 0 || what >= FACTS) {
            throw new IndexOutOfBoundsException("nothing of this kind is told of a manuscript");
        }
        return fact(one, what);
    }

    public int count(int what) throws IndexOutOfBoundsException {
        if (what < 0 || what >= COUNTS) {
            throw new IndexOutOfBoundsException("nothing of this kind is counted");
        }
        return counted(what);
    }

    // ---- who comes from whom

    public int distance(int a, int b) throws IndexOutOfBoundsException {
        return measure(manuscriptOf(a), manuscriptOf(b));
    }

    public int common(int a, int b) throws IndexOutOfBoundsException {
        Manuscript one = manuscriptOf(a);
        Manuscript other = manuscriptOf(b);
        for (Manuscript up = one; up != null; up = up.exemplar) {
            if (up == other || other.descendsFrom(up)) {
                return up.number;
            }
        }
        return NONE;
    }

    public int guess(int manuscript) throws IndexOutOfBoundsException {
        return guessed(manuscriptOf(manuscript));
    }

    public int find(int manuscript, int from, int a, int b)
            throws IndexOutOfBoundsException, IllegalArgumentException {
        Text text = manuscriptOf(manuscript).text;
        if (from < 0) {
            throw new IllegalArgumentException("no such place");
        }
        if (!isLetter(a) || b != NONE && !isLetter(b)) {
            throw new IllegalArgumentException("no such letter");
        }
        for (int place = from; place < text.length; place++) {
            if (text.has(place, 'a' + a) && (b == NONE || text.has(place + 1, 'a' + b))) {
                return place;
            }
        }
        return NONE;
    }

    // ---- what most have, and what would come

    public int voteLength() {
        return lengthOfMost();
    }

    public int vote(int place) throws IndexOutOfBoundsException {
        int length = lengthOfMost();
        if (place < 0 || place >= length) {
            throw new IndexOutOfBoundsException("no such place is voted for");
        }
        return letterOfMost(place, length);
    }

    public int voteDistance(int manuscript) throws IndexOutOfBoundsException {
        Manuscript one = manuscriptOf(manuscript);
        voteText();
        return steps(one.text, voted);
    }

    public int trial(int exemplar, int scribe, int times, int what)
            throws IndexOutOfBoundsException, IllegalArgumentException, IllegalStateException {
        Manuscript from = manuscriptOf(exemplar);
        Scribe one = scribeOf(scribe);
        if (what < 0 || what > 1) {
            throw new IndexOutOfBoundsException("nothing of this kind is told of a trial");
        }
        if (times < 1 || times > MOST_TIMES) {
            throw new IllegalArgumentException("no such number of times");
        }
        if (!from.there) {
            throw new IllegalStateException("the exemplar is lost");
        }
        draftCopy(from, one, times);
        return what == 0 ? draft.length : steps(draft, from.text);
    }

    public int advise(int exemplar) throws IndexOutOfBoundsException, IllegalStateException {
        Manuscript from = manuscriptOf(exemplar);
        if (!from.there) {
            throw new IllegalStateException("the exemplar is lost");
        }
        int best = NONE;
        int least = MOST_LETTERS + 1;
        for (int i = 0; i < scribes.size(); i++) {
            draftCopy(from, scribes.get(i), 1);
            int far = steps(draft, from.text);
            if (far < least) {
                least = far;
                best = i;
            }
        }
        return best;
    }

    public double decay() {
        int sum = 0;
        int there = 0;
        for (int i = 0; i < manuscripts.size(); i++) {
            Manuscript one = manuscripts.get(i);
            if (one.there) {
                sum += measure(one, one.origin());
                there++;
            }
        }
        return there == 0 ? 0.0 : (double) sum / (double) there;
    }

    public long digest() {
        long d = DIGEST_START;
        for (int what = 0; what < COUNTS; what++) {
            d = mixed(d, counted(what));
        }
        for (int i = 0; i < scribes.size(); i++) {
            d = scribeMixed(d, scribes.get(i));
        }
        for (int i = 0; i < manuscripts.size(); i++) {
            d = manuscriptMixed(d, manuscripts.get(i));
        }
        voteText();
        d = mixed(d, voted.length);
        return textMixed(d, voted);
    }

    // ---- what the calls are made of

    private Manuscript manuscriptOf(int number) throws IndexOutOfBoundsException {
        if (number < 0 || number >= manuscripts.size()) {
            throw new IndexOutOfBoundsException("no such manuscript");
        }
        return manuscripts.get(number);
    }

    private Scribe scribeOf(int number) throws IndexOutOfBoundsException {
        if (number < 0 || number >= scribes.size()) {
            throw new IndexOutOfBoundsException("no such scribe");
        }
        return scribes.get(number);
    }

    private static boolean isLetter(int letter) {
        return letter >= 0 && letter < ALPHABET;
    }

    private void feedNumber(int number) {
        for (int shift = 24; shift >= 0; shift -= 8) {
            if (tapeLength < tape.length) {
                tape[tapeLength] = (number >>> shift) & 255;
                tapeLength++;
            }
        }
    }

    private boolean tapeIsText() {
        for (int i = 0; i < tapeLength; i++) {
            if (!isLetter(tape[i] - 'a')) {
                return false;
            }
        }
        return tapeLength > 0;
    }

    private void draftFromTape() {
        draft.length = 0;
        for (int i = 0; i < tapeLength; i++) {
            draft.append(tape[i]);
        }
    }

    /** Leaves in the draft what the scribe makes of a manuscript by copying so many times. */
    private void draftCopy(Manuscript from, Scribe scribe, int times) {
        draft.become(from.text);
        for (int i = 0; i < times; i++) {
            for (int j = 0; j < scribe.habits.size(); j++) {
                scribe.habits.get(j).apply(draft, spare);
                draft.become(spare);
            }
        }
    }

    /** Makes a manuscript of the draft; the exemplar of an origin is null. */
    private int keepDraft(Manuscript exemplar, int scribe) {
        int number = manuscripts.size();
        manuscripts.add(new Manuscript(number, exemplar, scribe, draft));
        forgetMeasures(number);
        return number;
    }

    private int fact(Manuscript one, int what) {
        switch (what) {
            case 0:
                return one.text.length;
            case 1:
                return one.exemplar == null ? NONE : one.exemplar.number;
            case 2:
                return one.scribe;
            case 3:
                return one.generation;
            case 4:
                return one.there ? 1 : 0;
            case 5:
                return copiesOf(one);
            case 6:
                return descendantsOf(one);
            case 7:
                return one.exemplar == null ? 0 : measure(one, one.exemplar);
            default:
                return measure(one, one.origin());
        }
    }

    private int copiesOf(Manuscript one) {
        int copies = 0;
        for (int i = 0; i < manuscripts.size(); i++) {
            if (manuscripts.get(i).exemplar == one) {
                copies++;
            }
        }
        return copies;
    }

    private int descendantsOf(Manuscript one) {
        int descendants = 0;
        for (int i = 0; i < manuscripts.size(); i++) {
            if (manuscripts.get(i).descendsFrom(one)) {
                descendants++;
            }
        }
        return descendants;
    }

    private int counted(int what) {
        switch (what) {
            case 0:
                return manuscripts.size();
            case 1:
                return thoseThere();
            case 2:
                return scribes.size();
            case 3:
                return origins();
            case 4:
                return greatestGeneration();
            case 5:
                return tapeLength;
            case 6:
                return lettersThere();
            default:
                return guessedRight();
        }
    }

    private int thoseThere() {
        int there = 0;
        for (int i = 0; i < manuscripts.size(); i++) {
            if (manuscripts.get(i).there) {
                there++;
            }
        }
        return there;
    }

    private int origins() {
        int origins = 0;
        for (int i = 0; i < manuscripts.size(); i++) {
            if (manuscripts.get(i).exemplar == null) {
                origins++;
            }
        }
        return origins;
    }

    private int greatestGeneration() {
        int greatest = 0;
        for (int i = 0; i < manuscripts.size(); i++) {
            greatest = Math.max(greatest, manuscripts.get(i).generation);
        }
        return greatest;
    }

    private int lettersThere() {
        int letters = 0;
        for (int i = 0; i < manuscripts.size(); i++) {
            Manuscript one = manuscripts.get(i);
            if (one.there) {
                letters += one.text.length;
            }
        }
        return letters;
    }

    private int guessedRight() {
        int right = 0;
        for (int i = 0; i < manuscripts.size(); i++) {
            Manuscript one = manuscripts.get(i);
            if (one.there && one.exemplar != null && guessed(one) == one.exemplar.number) {
                right++;
            }
        }
        return right;
    }

    private int guessed(Manuscript one) {
        if (!one.there) {
            return NONE;
        }
        int best = NONE;
        int least = MOST_LETTERS;
        for (int i = 0; i < one.number && i < manuscripts.size(); i++) {
            Manuscript other = manuscripts.get(i);
            if (!other.there) {
                continue;
            }
            int far = measure(one, other);
            // Not < : of several with the least distance the last one is it.
            if (far <= least) {
                least = far;
                best = i;
            }
        }
        return best;
    }

    private int lengthOfMost() {
        Arrays.fill(tally, 0);
        for (int i = 0; i < manuscripts.size(); i++) {
            Manuscript one = manuscripts.get(i);
            if (one.there) {
                tally[one.text.length]++;
            }
        }
        return firstMostTallied(MOST_LETTERS + 1);
    }

    private int letterOfMost(int place, int length) {
        Arrays.fill(tally, 0);
        for (int i = 0; i < manuscripts.size(); i++) {
            Manuscript one = manuscripts.get(i);
            if (one.there && one.text.length == length && place < length) {
                int letter = one.text.letters[place] - 'a';
                if (isLetter(letter)) {
                    tally[letter]++;
                }
            }
        }
        return 'a' + firstMostTallied(ALPHABET);
    }

    private int firstMostTallied(int size) {
        int most = 0;
        for (int i = 1; i < size && i < tally.length; i++) {
            if (tally[i] > tally[most]) {
                most = i;
            }
        }
        return most;
    }

    private void voteText() {
        int length = lengthOfMost();
        voted.length = 0;
        for (int place = 0; place < length; place++) {
            voted.append(letterOfMost(place, length));
        }
    }

    // ---- distances

    private int measure(Manuscript one, Manuscript other) {
        int far = measured[one.number][other.number];
        if (far == NOT_MEASURED) {
            far = steps(one.text, other.text);
            measured[one.number][other.number] = far;
            measured[other.number][one.number] = far;
        }
        return far;
    }

    private void forgetMeasures(int number) {
        for (int i = 0; i < MOST_MANUSCRIPTS; i++) {
            measured[number][i] = NOT_MEASURED;
            measured[i][number] = NOT_MEASURED;
        }
    }

    /** The distance of two texts; what both have at their ends costs no steps, and is left aside. */
    private int steps(Text one, Text other) {
        int ahead = sameAhead(one, other);
        int behind = sameBehind(one, other, ahead);
        int height = one.length - behind;
        int width = other.length - ahead - behind;
        for (int j = 0; j <= width; j++) {
            stepRow[j] = j;
        }
        for (int i = ahead; i < height; i++) {
            nextStepRow(one.letters[i], other.letters, ahead, width);
        }
        return stepRow[width];
    }

    private static int sameAhead(Text one, Text other) {
        int same = 0;
        int most = Math.min(one.length, other.length);
        while (same < most && one.letters[same] == other.letters[same]) {
            same++;
        }
        return same;
    }

    private static int sameBehind(Text one, Text other, int ahead) {
        int same = 0;
        int most = Math.min(one.length, other.length) - ahead;
        while (same < most && one.letters[one.length - 1 - same] == other.letters[other.length - 1 - same]) {
            same++;
        }
        return same;
    }

    /**
     * The row held, for a beginning of the one text, its distances from all beginnings of the other
     * (from 'ahead' on); now it holds those for this beginning with one letter more.
     */
    private void nextStepRow(int letter, byte[] others, int ahead, int width) {
        int diagonal = stepRow[0];
        int left = diagonal + 1;
        stepRow[0] = left;
        for (int j = 1; j <= width; j++) {
            int above = stepRow[j];
            if (others[ahead + j - 1] == letter) {
                left = diagonal;
            } else {
                int least = above < diagonal ? above : diagonal;
                left = (left < least ? left : least) + 1;
            }
            stepRow[j] = left;
            diagonal = above;
        }
    }

    // ---- the digest's parts

    private static long mixed(long d, int x) {
        return d * DIGEST_FACTOR + x;
    }

    private static long scribeMixed(long start, Scribe scribe) {
        long d = mixed(start, scribe.habits.size());
        for (int i = 0; i < scribe.habits.size(); i++) {
            for (int what = 0; what < HABIT_PARTS; what++) {
                d = mixed(d, scribe.habits.get(i).part(what));
            }
        }
        return d;
    }

    private long manuscriptMixed(long start, Manuscript one) {
        long d = start;
        for (int what = 0; what < FACTS; what++) {
            d = mixed(d, fact(one, what));
        }
        d = mixed(d, guessed(one));
        return textMixed(d, one.text);
    }

    private static long textMixed(long start, Text text) {
        long d = start;
        for (int i = 0; i < text.length; i++) {
            d = mixed(d, text.letters[i]);
        }
        return d;
    }

    /** A row of letters, a to z, each as its byte; its length is never above the limit. */
    private static final class Text {
        final byte[] letters = new byte[MOST_LETTERS];
        int length = 0;

        void append(int letter) {
            if (length < letters.length) {
                letters[length] = (byte) letter;
                length++;
            }
        }

        void become(Text other) {
            System.arraycopy(other.letters, 0, letters, 0, other.length);
            length = other.length;
        }

        boolean has(int place, int letter) {
            return place >= 0 && place < length && letters[place] == letter;
        }

        /** Returns how many letters are other ones then. */
        int takeFrom(Text other, int place, int many) {
            int changed = 0;
            for (int i = place; i - place < many && i < length && i < other.length; i++) {
                if (letters[i] != other.letters[i]) {
                    letters[i] = other.letters[i];
                    changed++;
                }
            }
            return changed;
        }
    }

    /** One habit of a scribe; a and b are 0 to 25. */
    private static final class Habit {
        final int kind;
        final int a;
        final int b;
        final int n;

        Habit(int kind, int a, int b, int n) {
            this.kind = kind;
            this.a = a;
            this.b = b;
            this.n = n;
        }

        int part(int what) {
            switch (what) {
                case 0:
                    return kind;
                case 1:
                    return a;
                case 2:
                    return b;
                default:
                    return n;
            }
        }

        /** Makes of the text 'to' what becomes of the text 'from'. */
        void apply(Text from, Text to) {
            to.length = 0;
            switch (kind) {
                case SKIP:
                    skipOnce(from, to);
                    break;
                case SWAP:
                    swapEachNth(from, to);
                    break;
                default:
                    treatEachNth(from, to);
                    break;
            }
        }

        private void treatEachNth(Text from, Text to) {
            int seen = 0;
            for (int i = 0; i < from.length; i++) {
                int letter = from.letters[i];
                if (letter == 'a' + a) {
                    seen++;
                }
                if (letter == 'a' + a && seen == n) {
                    seen = 0;
                    treat(letter, to, from.length - i);
                } else {
                    to.append(letter);
                }
            }
        }

        /** 'rest' is the number of letters from this one on. */
        private void treat(int letter, Text to, int rest) {
            boolean room = to.length + rest < MOST_LETTERS;
            if (kind == CHANGE) {
                to.append('a' + b);
            } else if (kind != DROP) {
                to.append(letter);
            }
            if (kind == DOUBLE && room) {
                to.append(letter);
            }
        }

        private void skipOnce(Text from, Text to) {
            boolean skipped = false;
            for (int i = 0; i < from.length; i++) {
                to.append(from.letters[i]);
                int next = skipped ? NONE : nextWithin(from, i);
                if (next > i) {
                    i = next;
                    skipped = true;
                }
            }
        }

        /** Where, if an a stands at the place, the next a stands within the next n places. */
        private int nextWithin(Text from, int place) {
            if (from.has(place, 'a' + a)) {
                for (int i = place + 1; i - place <= n; i++) {
                    if (from.has(i, 'a' + a)) {
                        return i;
                    }
                }
            }
            return NONE;
        }

        private void swapEachNth(Text from, Text to) {
            int seen = 0;
            for (int i = 0; i < from.length; i++) {
                if (!from.has(i, 'a' + a) || !from.has(i + 1, 'a' + b)) {
                    to.append(from.letters[i]);
                    continue;
                }
                // Both letters are done here; the loop goes on behind the second one.
                i++;
                seen++;
                to.append('a' + (seen == n ? b : a));
                to.append('a' + (seen == n ? a : b));
                seen = seen == n ? 0 : seen;
            }
        }
    }

    private static final class Scribe {
        final ArrayList<Habit> habits = new ArrayList<Habit>();
    }

    /** A manuscript; that of an origin's exemplar is null. */
    private static final class Manuscript {
        final int number;
        final Manuscript exemplar;
        final int scribe;
        final int generation;
        final Text text = new Text();
        boolean there = true;

        Manuscript(int number, Manuscript exemplar, int scribe, Text letters) {
            this.number = number;
            this.exemplar = exemplar;
            this.scribe = scribe;
            this.generation = exemplar == null ? 0 : exemplar.generation + 1;
            this.text.become(letters);
        }

        Manuscript origin() {
            Manuscript up = this;
            while (up.exemplar != null) {
                up = up.exemplar;
            }
            return up;
        }

        boolean descendsFrom(Manuscript other) {
            for (Manuscript up = exemplar; up != null; up = up.exemplar) {
                if (up == other) {
                    return true;
                }
            }
            return false;
        }
    }
}
