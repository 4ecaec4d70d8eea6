/** Promises 6 to 9, sentence by sentence: what they say of boundaries. */
final class ScribesBoundsTest {
    private static final Class<IllegalArgumentException> BAD = IllegalArgumentException.class;
    private static final String NO_PLACE = IndexOutOfBoundsException.class.getName();
    private static final String BAD_STATE = IllegalStateException.class.getName();

    public static void main(String[] args) {
        addScribe();
        addScribeRefused();
        addHabitReturns();
        addHabitLetters();
        addHabitRefused();
        addHabitToFive();
        dropHabit();
        dropHabitRefused();
        habit();
        habitRefused();
        Document.noBoundary("Promise 7", "- `scribe`: the scribe", "- `kind`: its kind", "- `n`: n");
        Document.noBoundary("Promise 8", "- `scribe`: the scribe");
        Document.noBoundary("Promise 9", "- `scribe`: a scribe", "- `habit`: a habit", "Returns this.");
        Document.nothingLeft(6, 9);
        Check.end();
    }

    private static void addScribe() {
        Document.promise(6, "Adds a scribe without habits.");
        Bound.noPlace(() -> Scenes.habits(5), "habit(0, 0, 0) of a scribe without habits", x -> x.habit(0, 0, 0));
        Bound.noPlace(() -> Scenes.habits(0), "dropHabit(1, 0) of a scribe without habits", x -> x.dropHabit(1, 0));
        Bound.answers(() -> Scenes.habits(5), "addHabit(0, ..), the first one", x -> x.addHabit(0, 0, 0, 0, 1), 1);
        Document.promise(6, "Returns the number.");
        for (int many = 0; many < 8; many++) {
            int one = many;
            Bound.answers(() -> Scenes.scribes(one), "addScribe() behind " + many, x -> x.addScribe(), many);
        }
    }

    private static void addScribeRefused() {
        Document.promise(6, "Throws `IllegalStateException` if there are 8");
        Bound.answers(() -> Scenes.scribes(6), "addScribe() behind 6", x -> x.addScribe(), 6);
        Bound.answers(() -> Scenes.scribes(7), "addScribe() behind 7", x -> x.addScribe(), 7);
        Bound.badState(() -> Scenes.scribes(8), "addScribe() behind 8", x -> x.addScribe());
        Bound.badState(Scenes::full, "addScribe() behind 8 with all habits", x -> x.addScribe());
        CopyHouse x = Scenes.scribes(8);
        Bound.told(x, y -> y.addScribe());
        Check.due("scribes behind the refused one", x.count(2), 8);
        Check.due("the last one is known still", x.habit(7, 0, 3), 8);
        Check.due("the 9th is not", Bound.told(x, y -> y.addHabit(8, 0, 0, 0, 1)), NO_PLACE);
    }

    private static void addHabitReturns() {
        Document.promise(7, "Adds a habit behind the others.");
        Document.promise(7, "Returns the number of habits.");
        for (int many = 0; many < 5; many++) {
            CopyHouse x = Scenes.habits(many);
            Check.due("addHabit behind " + many, x.addHabit(1, 3, 20, 21, 9), many + 1);
            Check.due("n of the habit behind " + many, x.habit(1, many, 3), 9);
            if (many > 0) {
                Check.due("n of the habit ahead of it", x.habit(1, many - 1, 3), many);
                Check.due("n of the first habit", x.habit(1, 0, 3), 1);
            }
            Check.due("habits of the other scribe", Desk.habits(x, 0), 0);
        }
    }

    /** a is the letter 0, z the letter 25; b is nothing to the kinds 1, 2 and 3. */
    private static void addHabitLetters() {
        Document.promise(7, "- `a`: the letter a, 0 for a to 25 for z");
        Check.due("each a of azby becomes z", made("azby", 0, 0, 25), "zzby");
        Check.due("each b of azby becomes y", made("azby", 0, 1, 24), "azyy");
        Check.due("each y of azby becomes b", made("azby", 0, 24, 1), "azbb");
        Check.due("each z of azby becomes a", made("azby", 0, 25, 0), "aaby");
        Document.promise(7, "- `b`: the letter b, likewise (it matters for the kinds 0 and 4)");
        String text = "zazaaz";
        String[] made = {"zzz", "zaazaaaaz", "zazaz"};
        for (int kind = 1; kind <= 3; kind++) {
            for (int b : new int[] {0, 1, 24, 25}) {
                Check.due("kind " + kind + " with b " + b, made(text, kind, 0, b), made[kind - 1]);
            }
        }
        Check.due("kind 0 with b 0", made(text, 0, 25, 0), "aaaaaa");
        Check.due("kind 0 with b 25", made(text, 0, 0, 25), "zzzzzz");
        Check.due("kind 4 with b 0", made(text, 4, 25, 0), "azazaz");
        Check.due("kind 4 with b 25", made(text, 4, 0, 25), "zzaaza");
        Check.due("kind 4 with b 24", made(text, 4, 0, 24), "zazaaz");
    }

    private static String made(String text, int kind, int a, int b) {
        CopyHouse x = Scenes.written(text);
        x.addScribe();
        x.addHabit(0, kind, a, b, 1);
        return Desk.text(x, x.copy(0, 0));
    }

    private static void addHabitRefused() {
        Document.promise(7, "Throws `IndexOutOfBoundsException` if there is no such scribe");
        Bound.scribesOf("addHabit", (x, scribe) -> x.addHabit(scribe, 0, 0, 0, 1));
        Document.promise(7, "Throws `IllegalArgumentException` if kind is not 0 to 4, a or b is not 0 to 25, or n is"
                + " not 1 to 9");
        for (int habits : new int[] {0, 4}) {
            Bound.Scene scene = () -> Scenes.habits(habits);
            Bound.range("addHabit, kind", scene, 0, 4, BAD, (x, kind) -> x.addHabit(1, kind, 3, 4, 5));
            for (int kind = 0; kind < 5; kind++) {
                int one = kind;
                Bound.range("addHabit, kind " + kind + ", a", scene, 0, 25, BAD, (x, a) -> x.addHabit(1, one, a, 4, 5));
                Bound.range("addHabit, kind " + kind + ", b", scene, 0, 25, BAD, (x, b) -> x.addHabit(1, one, 3, b, 5));
                Bound.range("addHabit, kind " + kind + ", n", scene, 1, 9, BAD, (x, n) -> x.addHabit(1, one, 3, 4, n));
            }
        }
    }

    private static void addHabitToFive() {
        Document.promise(7, "Throws `IllegalStateException` if there are 5");
        Bound.answers(() -> Scenes.habits(3), "addHabit behind 3", x -> x.addHabit(1, 0, 0, 0, 1), 4);
        Bound.answers(() -> Scenes.habits(4), "addHabit behind 4", x -> x.addHabit(1, 0, 0, 0, 1), 5);
        Bound.badState(() -> Scenes.habits(5), "addHabit behind 5", x -> x.addHabit(1, 0, 0, 0, 1));
        Bound.answers(() -> Scenes.habits(5), "addHabit to the other scribe", x -> x.addHabit(0, 0, 0, 0, 1), 1);
        for (int scribe = 0; scribe < 8; scribe++) {
            int one = scribe;
            Bound.badState(Scenes::full, "addHabit behind 5, scribe " + scribe, x -> x.addHabit(one, 4, 25, 25, 9));
        }
        CopyHouse x = Scenes.habits(5);
        x.dropHabit(1, 0);
        Check.due("addHabit behind 5, of which one was dropped", x.addHabit(1, 0, 0, 0, 1), 5);
        Check.due("and once more", Bound.told(x, y -> y.addHabit(1, 0, 0, 0, 1)), BAD_STATE);
    }

    private static void dropHabit() {
        Document.promise(8, "Takes a habit away.");
        Document.promise(8, "- `habit`: the habit, from 0");
        String[] left = {"1234", "0234", "0134", "0124", "0123"};
        for (int habit = 0; habit < 5; habit++) {
            CopyHouse x = Scenes.habits(5);
            Check.due("dropHabit(1, " + habit + ")", x.dropHabit(1, habit), 4);
            Check.due("the kinds that are left", kinds(x), left[habit]);
        }
        Document.promise(8, "Returns the number of habits that are left.");
        for (int many = 1; many <= 5; many++) {
            int one = many;
            Bound.answers(() -> Scenes.habits(one), "dropHabit(1, 0) of " + many, x -> x.dropHabit(1, 0), many - 1);
        }
        CopyHouse x = Scenes.habits(5);
        for (int many = 5; many > 0; many--) {
            Check.due("dropHabit of the last of " + many, x.dropHabit(1, many - 1), many - 1);
        }
        Check.due("dropHabit of none", Bound.told(x, y -> y.dropHabit(1, 0)), NO_PLACE);
        Check.due("addHabit then", x.addHabit(1, 0, 0, 0, 1), 1);
    }

    private static String kinds(CopyHouse x) {
        StringBuilder all = new StringBuilder();
        for (int i = 0; i < 4; i++) {
            all.append(x.habit(1, i, 0));
        }
        return all.toString();
    }

    private static void dropHabitRefused() {
        Document.promise(8, "Throws `IndexOutOfBoundsException` if there is no such scribe or habit");
        Bound.scribesOf("dropHabit(.., 0)", (x, scribe) -> x.dropHabit(scribe, 0));
        for (int many = 0; many <= 5; many++) {
            int one = many;
            Bound.numbersOf("dropHabit(1, ..) of " + many, () -> Scenes.habits(one), many,
                    (x, habit) -> x.dropHabit(1, habit));
        }
    }

    private static void habit() {
        Document.promise(9, "- `what`: 0 its kind, 1 a, 2 b, 3 n");
        Bound.Scene least = () -> {
            CopyHouse x = Scenes.habits(0);
            x.addHabit(1, 0, 0, 25, 1);
            return x;
        };
        Bound.Scene greatest = () -> {
            CopyHouse x = Scenes.habits(4);
            x.addHabit(1, 4, 25, 0, 9);
            return x;
        };
        int[] ofLeast = {0, 0, 25, 1};
        int[] ofGreatest = {4, 25, 0, 9};
        for (int what = 0; what < 4; what++) {
            int one = what;
            Bound.answers(least, "habit(1, 0, " + what + ")", x -> x.habit(1, 0, one), ofLeast[what]);
            Bound.answers(greatest, "habit(1, 4, " + what + ")", x -> x.habit(1, 4, one), ofGreatest[what]);
        }
    }

    private static void habitRefused() {
        Document.promise(9, "Throws `IndexOutOfBoundsException` if there is no such scribe or habit, or what is not 0"
                + " to 3");
        Bound.scribesOf("habit(.., 0, 0)", (x, scribe) -> x.habit(scribe, 0, 0));
        for (int many = 0; many <= 5; many++) {
            int one = many;
            Bound.numbersOf("habit(1, .., 3) of " + many, () -> Scenes.habits(one), many,
                    (x, habit) -> x.habit(1, habit, 3));
        }
        Bound.numbersOf("habit(1, 0, ..)", () -> Scenes.habits(1), 4, (x, what) -> x.habit(1, 0, what));
        Bound.numbersOf("habit(1, 4, ..)", () -> Scenes.habits(5), 4, (x, what) -> x.habit(1, 4, what));
    }
}
