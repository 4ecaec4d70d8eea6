import java.util.Map;
import java.util.Random;

/** Many runs of calls, always the same ones, on a CopyHouse and a PlainHouse: the answers are alike. */
final class RandomRunsTest {
    private interface Answer {
        Object get();
    }

    private static final int RUNS = 300;
    private static final int CALLS = 512;
    private static final int[] FAR_OUTSIDE = {
        Integer.MIN_VALUE, Integer.MIN_VALUE + 1, -121, -24, -2, -1, 24, 26, 120, 121,
        Integer.MAX_VALUE - 119, Integer.MAX_VALUE - 1, Integer.MAX_VALUE,
    };
    /** How often each kind of call is made, in the order of 'call'. */
    private static final int[] WEIGHTS = {
        6, 3, 6, 3, 3, 8, 3, 2, 12, 8, 2, 6, 4, 3, 3, 3, 4, 1, 3, 3, 5, 3, 2, 2,
    };

    private final Random random;
    private final CopyHouse house = new CopyHouse();
    private final PlainHouse plain;
    private final String name;
    /** Few letters make many of them alike, and habits that find some. */
    private final int letters;
    private final int wrongArguments;

    private RandomRunsTest(int run, Map<String, Integer> distances) {
        random = new Random(4910L + run);
        plain = new PlainHouse(distances);
        name = "run " + run;
        letters = run % 5 == 0 ? 26 : 1 + run % 5;
        wrongArguments = run % 3 == 0 ? 20 : 3;
    }

    public static void main(String[] args) {
        Map<String, Integer> distances = PlainHouse.noDistances();
        for (int run = 0; run < RUNS && !Check.anyWrong(); run++) {
            boolean digestEachTime = run % 2 == 0;
            new RandomRunsTest(run, distances).run(digestEachTime);
            if (run % 10 == 9) {
                distances.clear();
            }
        }
        Check.end();
    }

    private void run(boolean digestEachTime) {
        int calls = digestEachTime ? CALLS / 2 : CALLS - 1;
        for (int i = 0; i < calls && !Check.anyWrong(); i++) {
            call(chosen());
            if (digestEachTime || i == calls - 1) {
                compare("digest()", () -> house.digest(), () -> plain.digest());
            }
        }
    }

    private int chosen() {
        int sum = 0;
        for (int weight : WEIGHTS) {
            sum += weight;
        }
        int left = random.nextInt(sum);
        for (int i = 0; i < WEIGHTS.length; i++) {
            left -= WEIGHTS[i];
            if (left < 0) {
                return i;
            }
        }
        return 0;
    }

    private int from(int least, int greatest) {
        if (random.nextInt(100) < wrongArguments) {
            return random.nextBoolean() ? FAR_OUTSIDE[random.nextInt(FAR_OUTSIDE.length)]
                    : random.nextBoolean() ? least - 1 : greatest + 1;
        }
        return greatest < least ? least : least + random.nextInt(greatest - least + 1);
    }

    private int manuscript() {
        int most = plain.count(0) - 1;
        // The newer ones more often: long lines of descent.
        return random.nextInt(3) == 0 ? from(Math.max(0, most - 2), most) : from(0, most);
    }

    private int scribe() {
        return from(0, plain.count(2) - 1);
    }

    private int letter() {
        return from(0, letters - 1);
    }

    private int length(int manuscript) {
        return manuscript >= 0 && manuscript < plain.count(0) ? plain.manuscript(manuscript, 0) : 0;
    }

    private int bytes() {
        int number = 0;
        for (int i = 0; i < 4; i++) {
            boolean bad = random.nextInt(2000) < wrongArguments;
            number = number << 8 | (bad ? random.nextInt(256) : 'a' + random.nextInt(letters));
        }
        return number;
    }

    private void compare(String call, Answer got, Answer want) {
        String one = toldByHouse(got);
        String other = told(want);
        if (!one.equals(other)) {
            Check.complain(name + ": " + call + " answered " + one + ", PlainHouse " + other);
        }
    }

    private static String told(Answer answer) {
        try {
            return answer.get().toString();
        } catch (RuntimeException e) {
            return e.getClass().getName();
        }
    }

    /** As 'told', and what the Java machine throws is told as such: nothing else answers so. */
    private static String toldByHouse(Answer answer) {
        try {
            return answer.get().toString();
        } catch (RuntimeException e) {
            return Check.thrownByWill(e) ? e.getClass().getName() : "the machine's " + e;
        }
    }

    private void call(int kind) {
        if (kind < 8) {
            callOfTextsAndScribes(kind);
        } else if (kind < 17) {
            callOfCopies(kind);
        } else {
            callOfVotes(kind);
        }
    }

    private void callOfTextsAndScribes(int kind) {
        int m = manuscript();
        int s = scribe();
        int habit = from(0, 4);
        switch (kind) {
            case 0:
                int[] x = {bytes(), bytes(), bytes(), bytes(), bytes()};
                compare("feed", () -> house.feed(x[0], x[1], x[2], x[3], x[4]), () -> plain.feed(x));
                break;
            case 1:
                int n = from(0, plain.count(5));
                compare("trim(" + n + ")", () -> house.trim(n), () -> plain.trim(n));
                break;
            case 2:
                compare("write()", () -> house.write(), () -> plain.write());
                break;
            case 3:
                int place = from(0, length(m) - 1);
                compare("letter(" + m + ", " + place + ")", () -> house.letter(m, place),
                        () -> plain.letter(m, place));
                break;
            case 4:
                compare("addScribe()", () -> house.addScribe(), () -> plain.addScribe());
                break;
            case 5:
                int[] h = {from(0, 4), letter(), letter(), random.nextInt(2) == 0 ? from(1, 3) : from(1, 9)};
                compare("addHabit(" + s + ", " + h[0] + ", " + h[1] + ", " + h[2] + ", " + h[3] + ")",
                        () -> house.addHabit(s, h[0], h[1], h[2], h[3]),
                        () -> plain.addHabit(s, h[0], h[1], h[2], h[3]));
                break;
            case 6:
                compare("dropHabit(" + s + ", " + habit + ")", () -> house.dropHabit(s, habit),
                        () -> plain.dropHabit(s, habit));
                break;
            default:
                int what = from(0, 3);
                compare("habit(" + s + ", " + habit + ", " + what + ")", () -> house.habit(s, habit, what),
                        () -> plain.habit(s, habit, what));
                break;
        }
    }

    private void callOfCopies(int kind) {
        int a = manuscript();
        int b = manuscript();
        switch (kind) {
            case 8:
                int s = scribe();
                compare("copy(" + a + ", " + s + ")", () -> house.copy(a, s), () -> plain.copy(a, s));
                break;
            case 9:
                int shorter = Math.min(length(a), length(b));
                int place = from(0, shorter - 1);
                int many = from(1, shorter - Math.max(0, Math.min(place, shorter - 1)));
                compare("emend(" + a + ", " + b + ", " + place + ", " + many + ")",
                        () -> house.emend(a, b, place, many), () -> plain.emend(a, b, place, many));
                break;
            case 10:
                compare("lose(" + a + ")", () -> house.lose(a), () -> plain.lose(a));
                break;
            case 11:
                int fact = from(0, 8);
                compare("manuscript(" + a + ", " + fact + ")", () -> house.manuscript(a, fact),
                        () -> plain.manuscript(a, fact));
                break;
            case 12:
                int what = from(0, 7);
                compare("count(" + what + ")", () -> house.count(what), () -> plain.count(what));
                break;
            case 13:
                compare("distance(" + a + ", " + b + ")", () -> house.distance(a, b), () -> plain.distance(a, b));
                break;
            case 14:
                compare("common(" + a + ", " + b + ")", () -> house.common(a, b), () -> plain.common(a, b));
                break;
            case 15:
                compare("guess(" + a + ")", () -> house.guess(a), () -> plain.guess(a));
                break;
            default:
                int from = from(0, length(a));
                int one = letter();
                int other = from(-1, letters - 1);
                compare("find(" + a + ", " + from + ", " + one + ", " + other + ")",
                        () -> house.find(a, from, one, other), () -> plain.find(a, from, one, other));
                break;
        }
    }

    private void callOfVotes(int kind) {
        int m = manuscript();
        int s = scribe();
        switch (kind) {
            case 17:
                compare("voteLength()", () -> house.voteLength(), () -> plain.voteLength());
                break;
            case 18:
                int place = from(0, plain.voteLength() - 1);
                compare("vote(" + place + ")", () -> house.vote(place), () -> plain.vote(place));
                break;
            case 19:
                compare("voteDistance(" + m + ")", () -> house.voteDistance(m), () -> plain.voteDistance(m));
                break;
            case 20:
                int times = from(1, 20);
                int what = from(0, 1);
                compare("trial(" + m + ", " + s + ", " + times + ", " + what + ")",
                        () -> house.trial(m, s, times, what), () -> plain.trial(m, s, times, what));
                break;
            case 21:
                compare("advise(" + m + ")", () -> house.advise(m), () -> plain.advise(m));
                break;
            case 22:
                compare("decay()", () -> house.decay(), () -> plain.decay());
                break;
            default:
                compare("digest()", () -> house.digest(), () -> plain.digest());
                break;
        }
    }
}
