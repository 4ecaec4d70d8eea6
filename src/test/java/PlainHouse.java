import java.util.ArrayList;
import java.util.HashMap;
import java.util.List;
import java.util.Map;
import java.util.TreeMap;

/**
 * The document once more, in the plainest way and with the whole library, for comparison:
 * texts are Strings, nothing is kept that could be looked up again.
 */
final class PlainHouse {
    private static final class Page {
        int exemplar;
        int scribe;
        String text;
        boolean there = true;
    }

    private final List<Page> pages = new ArrayList<Page>();
    private final List<List<int[]>> scribes = new ArrayList<List<int[]>>();
    private final List<Integer> tape = new ArrayList<Integer>();
    private final Map<String, Integer> distances;

    /** Distances of texts may be kept from object to object: they depend on the texts alone. */
    PlainHouse(Map<String, Integer> distances) {
        this.distances = distances;
    }

    private static void index(boolean good) {
        if (!good) {
            throw new IndexOutOfBoundsException();
        }
    }

    private static void argument(boolean good) {
        if (!good) {
            throw new IllegalArgumentException();
        }
    }

    private static void state(boolean good) {
        if (!good) {
            throw new IllegalStateException();
        }
    }

    private static boolean within(long x, long least, long greatest) {
        return least <= x && x <= greatest;
    }

    private Page page(int number) {
        index(within(number, 0, pages.size() - 1));
        return pages.get(number);
    }

    private List<int[]> scribe(int number) {
        index(within(number, 0, scribes.size() - 1));
        return scribes.get(number);
    }

    int feed(int... numbers) {
        state(tape.size() + 20 <= 60);
        for (int number : numbers) {
            for (int i = 3; i >= 0; i--) {
                tape.add(number >> 8 * i & 0xff);
            }
        }
        return tape.size();
    }

    int trim(int n) {
        argument(within(n, 0, tape.size()));
        tape.subList(n, tape.size()).clear();
        return n;
    }

    int write() {
        state(pages.size() < 24);
        StringBuilder text = new StringBuilder();
        for (int one : tape) {
            text.append((char) one);
        }
        tape.clear();
        return text.toString().matches("[a-z]+") ? keep(-1, -1, text.toString()) : -1;
    }

    private int keep(int exemplar, int scribe, String text) {
        Page page = new Page();
        page.exemplar = exemplar;
        page.scribe = scribe;
        page.text = text;
        pages.add(page);
        return pages.size() - 1;
    }

    int letter(int manuscript, int place) {
        String text = page(manuscript).text;
        index(within(place, 0, text.length() - 1));
        return text.charAt(place);
    }

    int addScribe() {
        state(scribes.size() < 8);
        scribes.add(new ArrayList<int[]>());
        return scribes.size() - 1;
    }

    int addHabit(int scribe, int kind, int a, int b, int n) {
        List<int[]> habits = scribe(scribe);
        argument(within(kind, 0, 4) && within(a, 0, 25) && within(b, 0, 25) && within(n, 1, 9));
        state(habits.size() < 5);
        habits.add(new int[] {kind, a, b, n});
        return habits.size();
    }

    int dropHabit(int scribe, int habit) {
        List<int[]> habits = scribe(scribe);
        index(within(habit, 0, habits.size() - 1));
        habits.remove(habit);
        return habits.size();
    }

    int habit(int scribe, int habit, int what) {
        List<int[]> habits = scribe(scribe);
        index(within(habit, 0, habits.size() - 1) && within(what, 0, 3));
        return habits.get(habit)[what];
    }

    private static String copied(String text, List<int[]> habits) {
        String made = text;
        for (int[] habit : habits) {
            made = changed(made, habit[0], (char) ('a' + habit[1]), (char) ('a' + habit[2]), habit[3]);
        }
        return made;
    }

    private static String changed(String text, int kind, char a, char b, int n) {
        if (kind == 3) {
            return skipped(text, a, n);
        }
        String made = "";
        String rest = text;
        int times = 0;
        while (!rest.isEmpty()) {
            String one = rest.substring(0, 1);
            boolean counts = kind == 4 ? rest.startsWith("" + a + b) : rest.charAt(0) == a;
            if (kind == 4 && counts) {
                one = rest.substring(0, 2);
            }
            if (counts && ++times % n == 0) {
                one = treated(kind, one, b, made.length() + rest.length() < 120);
            }
            rest = rest.substring(kind == 4 && counts ? 2 : 1);
            made += one;
        }
        return made;
    }

    private static String treated(int kind, String one, char b, boolean room) {
        switch (kind) {
            case 0:
                return "" + b;
            case 1:
                return "";
            case 2:
                return room ? one + one : one;
            default:
                return new StringBuilder(one).reverse().toString();
        }
    }

    private static String skipped(String text, char a, int n) {
        for (int i = text.indexOf(a); i >= 0; i = text.indexOf(a, i + 1)) {
            int next = text.indexOf(a, i + 1);
            if (next >= 0 && next - i <= n) {
                return text.substring(0, i + 1) + text.substring(next + 1);
            }
        }
        return text;
    }

    int copy(int exemplar, int scribe) {
        Page page = page(exemplar);
        List<int[]> habits = scribe(scribe);
        state(page.there && pages.size() < 24);
        return keep(exemplar, scribe, copied(page.text, habits));
    }

    int emend(int manuscript, int by, int place, int many) {
        Page one = page(manuscript);
        Page other = page(by);
        argument(within(many, 1, 120) && place >= 0);
        long end = (long) place + many;
        argument(end <= one.text.length() && end <= other.text.length());
        state(one.there && other.there);
        int changed = 0;
        for (int i = place; i < end; i++) {
            changed += one.text.charAt(i) == other.text.charAt(i) ? 0 : 1;
        }
        one.text = one.text.substring(0, place) + other.text.substring(place, (int) end)
                + one.text.substring((int) end);
        return changed;
    }

    int lose(int manuscript) {
        Page page = page(manuscript);
        state(page.there);
        page.there = false;
        return count(1);
    }

    /** The manuscript and all from which it descends, from this one on. */
    private List<Integer> line(int manuscript) {
        List<Integer> line = new ArrayList<Integer>();
        for (int up = manuscript; up >= 0; up = pages.get(up).exemplar) {
            line.add(up);
        }
        return line;
    }

    int manuscript(int manuscript, int what) {
        Page page = page(manuscript);
        index(within(what, 0, 8));
        List<Integer> line = line(manuscript);
        int copies = 0;
        int descendants = -1;
        for (int i = 0; i < pages.size(); i++) {
            copies += pages.get(i).exemplar == manuscript ? 1 : 0;
            descendants += line(i).contains(manuscript) ? 1 : 0;
        }
        switch (what) {
            case 0:
                return page.text.length();
            case 1:
                return page.exemplar;
            case 2:
                return page.scribe;
            case 3:
                return line.size() - 1;
            case 4:
                return page.there ? 1 : 0;
            case 5:
                return copies;
            case 6:
                return descendants;
            case 7:
                return distance(manuscript, line.get(Math.min(1, line.size() - 1)));
            default:
                return distance(manuscript, line.get(line.size() - 1));
        }
    }

    int count(int what) {
        index(within(what, 0, 7));
        int[] counts = new int[8];
        counts[0] = pages.size();
        counts[2] = scribes.size();
        counts[5] = tape.size();
        for (int i = 0; i < pages.size(); i++) {
            Page page = pages.get(i);
            counts[3] += page.exemplar < 0 ? 1 : 0;
            counts[4] = Math.max(counts[4], line(i).size() - 1);
            if (page.there) {
                counts[1]++;
                counts[6] += page.text.length();
                counts[7] += what == 7 && page.exemplar >= 0 && guess(i) == page.exemplar ? 1 : 0;
            }
        }
        return counts[what];
    }

    private int far(String one, String other) {
        String key = one + " " + other;
        if (!distances.containsKey(key)) {
            distances.put(key, steps(one, other));
        }
        return distances.get(key);
    }

    private static int steps(String one, String other) {
        int[][] least = new int[one.length() + 1][other.length() + 1];
        for (int i = 0; i <= one.length(); i++) {
            for (int j = 0; j <= other.length(); j++) {
                least[i][j] = i + j;
                if (i > 0 && j > 0) {
                    int other1 = one.charAt(i - 1) == other.charAt(j - 1) ? 0 : 1;
                    least[i][j] = Math.min(least[i - 1][j - 1] + other1,
                            1 + Math.min(least[i - 1][j], least[i][j - 1]));
                }
            }
        }
        return least[one.length()][other.length()];
    }

    int distance(int a, int b) {
        return far(page(a).text, page(b).text);
    }

    int common(int a, int b) {
        page(a);
        page(b);
        List<Integer> both = line(a);
        both.retainAll(line(b));
        return both.isEmpty() ? -1 : both.get(0);
    }

    int guess(int manuscript) {
        Page page = page(manuscript);
        int best = -1;
        for (int i = manuscript - 1; i >= 0 && page.there; i--) {
            if (pages.get(i).there && (best < 0 || distance(manuscript, i) < distance(manuscript, best))) {
                best = i;
            }
        }
        return best;
    }

    int find(int manuscript, int from, int a, int b) {
        String text = page(manuscript).text;
        argument(from >= 0 && within(a, 0, 25) && within(b, -1, 25));
        String sought = "" + (char) ('a' + a) + (b < 0 ? "" : "" + (char) ('a' + b));
        return from > text.length() ? -1 : text.indexOf(sought, from);
    }

    private static int firstMost(Map<Integer, Integer> votes) {
        int best = 0;
        for (int one : votes.keySet()) {
            if (votes.get(one) > votes.getOrDefault(best, 0)) {
                best = one;
            }
        }
        return best;
    }

    int voteLength() {
        Map<Integer, Integer> votes = new TreeMap<Integer, Integer>();
        for (Page page : pages) {
            if (page.there) {
                votes.merge(page.text.length(), 1, Integer::sum);
            }
        }
        return firstMost(votes);
    }

    int vote(int place) {
        int length = voteLength();
        index(within(place, 0, length - 1));
        Map<Integer, Integer> votes = new TreeMap<Integer, Integer>();
        for (Page page : pages) {
            if (page.there && page.text.length() == length) {
                votes.merge((int) page.text.charAt(place), 1, Integer::sum);
            }
        }
        return firstMost(votes);
    }

    int voteDistance(int manuscript) {
        String text = page(manuscript).text;
        StringBuilder voted = new StringBuilder();
        for (int i = 0; i < voteLength(); i++) {
            voted.append((char) vote(i));
        }
        return far(text, voted.toString());
    }

    int trial(int exemplar, int scribe, int times, int what) {
        Page page = page(exemplar);
        List<int[]> habits = scribe(scribe);
        index(within(what, 0, 1));
        argument(within(times, 1, 20));
        state(page.there);
        String text = page.text;
        for (int i = 0; i < times; i++) {
            text = copied(text, habits);
        }
        return what == 0 ? text.length() : far(text, page.text);
    }

    int advise(int exemplar) {
        Page page = page(exemplar);
        state(page.there);
        int best = -1;
        for (int i = scribes.size() - 1; i >= 0; i--) {
            if (best < 0 || trial(exemplar, i, 1, 1) <= trial(exemplar, best, 1, 1)) {
                best = i;
            }
        }
        return best;
    }

    double decay() {
        double sum = 0;
        for (int i = 0; i < pages.size(); i++) {
            sum += pages.get(i).there ? manuscript(i, 8) : 0;
        }
        return count(1) == 0 ? 0 : sum / count(1);
    }

    long digest() {
        List<Integer> all = new ArrayList<Integer>();
        for (int what = 0; what < 8; what++) {
            all.add(count(what));
        }
        for (List<int[]> habits : scribes) {
            all.add(habits.size());
            for (int[] habit : habits) {
                for (int one : habit) {
                    all.add(one);
                }
            }
        }
        for (int i = 0; i < pages.size(); i++) {
            for (int what = 0; what < 9; what++) {
                all.add(manuscript(i, what));
            }
            all.add(guess(i));
            for (char one : pages.get(i).text.toCharArray()) {
                all.add((int) one);
            }
        }
        all.add(voteLength());
        for (int i = 0; i < voteLength(); i++) {
            all.add(vote(i));
        }
        long d = 491;
        for (int one : all) {
            d = d * 31 + one;
        }
        return d;
    }

    static Map<String, Integer> noDistances() {
        return new HashMap<String, Integer>();
    }
}
