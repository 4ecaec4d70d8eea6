import java.util.Map;
import java.util.TreeMap;

/** All promises: an answered call changes what its promise says, and leaves all else as it is. */
final class EffectsTest {
    private static final Bound.Scene SMALL = () -> Scenes.small();

    public static void main(String[] args) {
        smallIsKnown();
        texts();
        scribes();
        copies();
        askingChangesNothing();
        Check.end();
    }

    private static void smallIsKnown() {
        Map<String, String> known = new TreeMap<String, String>();
        known.put("tape", "3 bytes xyz");
        known.put("scribe 0", "[0 0 1 2][2 1 1 2]");
        known.put("scribe 1", "");
        known.put("manuscript 0", "abcab from -1 by -1, there 1");
        known.put("manuscript 1", "babel from -1 by -1, there 1");
        known.put("manuscript 2", "abcbbb from 0 by 0, there 1");
        known.put("manuscript 3", "abcbbb from 2 by 1, there 0");
        known.put("manuscript 4", "babbel from 1 by 0, there 1");
        Check.due("what a small object holds", held(SMALL.made()).toString(), known.toString());
    }

    private static void texts() {
        effect("feed", SMALL, x -> x.feed(0x61626364, 0x65666768, 0x696a6b6c, 0x6d6e6f70, 0x71727374), 23,
                "tape", "23 bytes xyzabcdefghijklmnopqrst");
        effect("trim", SMALL, x -> x.trim(2), 2, "tape", "2 bytes xy");
        effect("write", SMALL, x -> x.write(), 5, "tape", "0 bytes ", "manuscript 5", "xyz from -1 by -1, there 1");
        Bound.Scene blank = () -> {
            CopyHouse x = SMALL.made();
            x.feed(0x61206161, 0, 0, 0, 0);
            return x;
        };
        effect("write of other bytes", blank, x -> x.write(), -1, "tape", "0 bytes ");
    }

    private static void scribes() {
        effect("addScribe", SMALL, x -> x.addScribe(), 2, "scribe 2", "");
        effect("addHabit", SMALL, x -> x.addHabit(0, 4, 25, 3, 9), 3, "scribe 0", "[0 0 1 2][2 1 1 2][4 25 3 9]");
        effect("addHabit, the first one", SMALL, x -> x.addHabit(1, 1, 0, 0, 1), 1, "scribe 1", "[1 0 0 1]");
        effect("dropHabit", SMALL, x -> x.dropHabit(0, 0), 1, "scribe 0", "[2 1 1 2]");
    }

    private static void copies() {
        effect("copy", SMALL, x -> x.copy(4, 0), 5, "manuscript 5", "babbbel from 4 by 0, there 1");
        effect("emend", SMALL, x -> x.emend(2, 1, 0, 4), 4, "manuscript 2", "babebb from 0 by 0, there 1");
        effect("emend of an exemplar", SMALL, x -> x.emend(0, 1, 4, 1), 1,
                "manuscript 0", "abcal from -1 by -1, there 1");
        effect("emend by itself", SMALL, x -> x.emend(1, 1, 0, 5), 0);
        effect("lose", SMALL, x -> x.lose(2), 3, "manuscript 2", "abcbbb from 0 by 0, there 0");
        effect("lose an origin", SMALL, x -> x.lose(1), 3, "manuscript 1", "babel from -1 by -1, there 0");
    }

    private static void askingChangesNothing() {
        for (int one = 0; one < 5; one++) {
            int m = one;
            stays("letter", x -> x.letter(m, 0));
            for (int what = 0; what < 9; what++) {
                int fact = what;
                stays("manuscript, " + what, x -> x.manuscript(m, fact));
            }
            stays("distance", x -> x.distance(m, 1));
            stays("common", x -> x.common(m, 0));
            stays("guess", x -> x.guess(m));
            stays("find", x -> x.find(m, 0, 1, -1));
            stays("voteDistance", x -> x.voteDistance(m));
        }
        for (int what = 0; what < 8; what++) {
            int counted = what;
            stays("count, " + what, x -> x.count(counted));
        }
        stays("habit", x -> x.habit(0, 1, 2));
        stays("voteLength", x -> x.voteLength());
        stays("vote", x -> x.vote(4));
        stays("trial, length", x -> x.trial(0, 0, 20, 0));
        stays("trial, distance", x -> x.trial(4, 0, 20, 1));
        stays("advise", x -> x.advise(4));
        stays("decay", x -> (long) x.decay());
        stays("digest", x -> x.digest());
    }

    private static void stays(String call, Bound.Act act) {
        CopyHouse x = SMALL.made();
        act.on(x);
        Check.due("what is held behind " + call, held(x).toString(), held(SMALL.made()).toString());
    }

    /** The call answers this, and of what is held these parts, each followed by what it is then, are other ones. */
    private static void effect(String call, Bound.Scene scene, Bound.Act act, long answer, String... others) {
        CopyHouse x = scene.made();
        Check.due(call, act.on(x), answer);
        Map<String, String> due = held(scene.made());
        for (int i = 0; i + 1 < others.length; i += 2) {
            due.put(others[i], others[i + 1]);
        }
        Check.due("what is held behind " + call, held(x).toString(), due.toString());
    }

    /** All that the object keeps, from which the rest is told; the tape is told last, since it is written for it. */
    private static Map<String, String> held(CopyHouse x) {
        Map<String, String> all = new TreeMap<String, String>();
        for (int scribe = 0; scribe < x.count(2); scribe++) {
            all.put("scribe " + scribe, habitsOf(x, scribe));
        }
        for (int one = 0; one < x.count(0); one++) {
            all.put("manuscript " + one, Desk.text(x, one) + " from " + x.manuscript(one, 1) + " by "
                    + x.manuscript(one, 2) + ", there " + x.manuscript(one, 4));
        }
        int bytes = x.count(5);
        int taped = x.write();
        all.put("tape", bytes + " bytes " + (taped < 0 ? "" : Desk.text(x, taped)));
        return all;
    }

    private static String habitsOf(CopyHouse x, int scribe) {
        StringBuilder all = new StringBuilder();
        for (int habit = 0; habit < Desk.habits(x, scribe); habit++) {
            all.append('[').append(x.habit(scribe, habit, 0));
            for (int what = 1; what < 4; what++) {
                all.append(' ').append(x.habit(scribe, habit, what));
            }
            all.append(']');
        }
        return all.toString();
    }
}
