/** Promises 6 to 9: addScribe, addHabit, dropHabit, habit. */
final class ScribesTest {
    private static final int[] NO_LETTERS = {Integer.MIN_VALUE, -1, 26, 97, Integer.MAX_VALUE};
    private static final int[] NO_SCRIBES = {Integer.MIN_VALUE, -1, 1, 8, Integer.MAX_VALUE};

    public static void main(String[] args) {
        addScribe();
        addHabit();
        refusedHabits(0);
        refusedHabits(5);
        dropHabit();
        habit();
        Check.end();
    }

    private static void addScribe() {
        CopyHouse x = new CopyHouse();
        for (int i = 0; i < 8; i++) {
            Check.due("addScribe() number " + i, x.addScribe(), i);
            Check.due("habits of scribe " + i, Desk.habits(x, i), 0);
            Check.due("count(2)", x.count(2), i + 1);
        }
        Check.badState(x, "addScribe() 9th", () -> x.addScribe());
        Check.due("count(2)", x.count(2), 8);
    }

    private static void addHabit() {
        CopyHouse x = new CopyHouse();
        x.addScribe();
        x.addScribe();
        Check.due("1st habit", x.addHabit(1, 0, 0, 25, 1), 1);
        Check.due("2nd habit", x.addHabit(1, 1, 25, 0, 9), 2);
        Check.due("3rd habit", x.addHabit(1, 2, 3, 3, 5), 3);
        Check.due("4th habit", x.addHabit(1, 3, 4, 5, 6), 4);
        Check.due("1st habit of the other one", x.addHabit(0, 2, 7, 7, 7), 1);
        Check.due("5th habit", x.addHabit(1, 4, 7, 8, 2), 5);
        Check.badState(x, "6th habit", () -> x.addHabit(1, 4, 7, 8, 2));
        Check.due("kind of the 5th", x.habit(1, 4, 0), 4);
        Check.due("a of the 2nd", x.habit(1, 1, 1), 25);
        Check.due("habits of the other one", Desk.habits(x, 0), 1);
    }

    /** Also with five habits what is named first is thrown. */
    private static void refusedHabits(int habits) {
        CopyHouse x = new CopyHouse();
        x.addScribe();
        for (int i = 0; i < habits; i++) {
            x.addHabit(0, 0, 1, 2, 3);
        }
        int[] noKinds = {Integer.MIN_VALUE, -1, 5, Integer.MAX_VALUE};
        int[] noNumbers = {Integer.MIN_VALUE, -1, 0, 10, Integer.MAX_VALUE};
        for (int kind : noKinds) {
            Check.badArgument(x, "addHabit, kind " + kind, () -> x.addHabit(0, kind, 1, 2, 3));
        }
        for (int kind = 0; kind < 5; kind++) {
            int one = kind;
            for (int letter : NO_LETTERS) {
                Check.badArgument(x, "addHabit, a " + letter, () -> x.addHabit(0, one, letter, 2, 3));
                Check.badArgument(x, "addHabit, b " + letter, () -> x.addHabit(0, one, 1, letter, 3));
            }
            for (int n : noNumbers) {
                Check.badArgument(x, "addHabit, n " + n, () -> x.addHabit(0, one, 1, 2, n));
            }
        }
        for (int scribe : NO_SCRIBES) {
            Check.noPlace(x, "addHabit, scribe " + scribe, () -> x.addHabit(scribe, 1, 1, 2, 3));
            Check.noPlace(x, "addHabit, all wrong", () -> x.addHabit(scribe, 5, 26, 26, 10));
        }
    }

    private static void dropHabit() {
        CopyHouse x = new CopyHouse();
        x.addScribe();
        Check.noPlace(x, "dropHabit of none", () -> x.dropHabit(0, 0));
        for (int i = 0; i < 5; i++) {
            x.addHabit(0, i, i + 10, i + 20, i + 1);
        }
        int[] noHabits = {Integer.MIN_VALUE, -1, 5, Integer.MAX_VALUE};
        for (int habit : noHabits) {
            Check.noPlace(x, "dropHabit(0, " + habit + ")", () -> x.dropHabit(0, habit));
        }
        for (int scribe : NO_SCRIBES) {
            Check.noPlace(x, "dropHabit(" + scribe + ", 0)", () -> x.dropHabit(scribe, 0));
        }
        Check.due("dropHabit(0, 1)", x.dropHabit(0, 1), 4);
        Check.due("kinds left", kinds(x), "0234");
        Check.due("dropHabit(0, 3)", x.dropHabit(0, 3), 3);
        Check.due("kinds left", kinds(x), "023");
        Check.due("dropHabit(0, 0)", x.dropHabit(0, 0), 2);
        Check.due("kinds left", kinds(x), "23");
        Check.due("n of the first one left", x.habit(0, 0, 3), 3);
        Check.noPlace(x, "dropHabit(0, 2)", () -> x.dropHabit(0, 2));
        Check.due("a new one goes behind", x.addHabit(0, 1, 1, 1, 1), 3);
        Check.due("kinds then", kinds(x), "231");
        x.dropHabit(0, 0);
        x.dropHabit(0, 0);
        Check.due("the last one goes", x.dropHabit(0, 0), 0);
        Check.noPlace(x, "dropHabit of none", () -> x.dropHabit(0, 0));
    }

    private static String kinds(CopyHouse x) {
        StringBuilder all = new StringBuilder();
        for (int i = 0; i < Desk.habits(x, 0); i++) {
            all.append(x.habit(0, i, 0));
        }
        return all.toString();
    }

    private static void habit() {
        CopyHouse x = new CopyHouse();
        x.addScribe();
        Check.noPlace(x, "habit of none", () -> x.habit(0, 0, 0));
        x.addHabit(0, 3, 11, 22, 7);
        x.addHabit(0, 1, 0, 25, 9);
        Check.due("kind", x.habit(0, 0, 0), 3);
        Check.due("a", x.habit(0, 0, 1), 11);
        Check.due("b", x.habit(0, 0, 2), 22);
        Check.due("n", x.habit(0, 0, 3), 7);
        Check.due("b of a kind that it does not matter for", x.habit(0, 1, 2), 25);
        int[] outside = {Integer.MIN_VALUE, -1, 4, Integer.MAX_VALUE};
        for (int one : outside) {
            Check.noPlace(x, "habit(0, 0, " + one + ")", () -> x.habit(0, 0, one));
            Check.noPlace(x, "habit(0, " + one + ", 0)", () -> x.habit(0, one, 0));
        }
        Check.noPlace(x, "habit(0, 2, 0)", () -> x.habit(0, 2, 0));
        for (int scribe : NO_SCRIBES) {
            Check.noPlace(x, "habit(" + scribe + ", 0, 0)", () -> x.habit(scribe, 0, 0));
        }
    }
}
