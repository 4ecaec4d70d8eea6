/** What 'Terms' says of calls that throw: what changes, and which exception it is; run by TermsBoundsTest. */
final class RefusalBounds {
    private static final Class<? extends RuntimeException> INDEX = IndexOutOfBoundsException.class;
    private static final Class<? extends RuntimeException> ARGUMENT = IllegalArgumentException.class;
    private static final Class<? extends RuntimeException> STATE = IllegalStateException.class;
    /** In the scene 'some', manuscripts 0 and 3 are there, 1 and 2 lost; of the scribes, 0 to 2, 1 has 5 habits. */
    private static final int[] MANUSCRIPTS = {0, 3, 1, 2, -1, 4, 24, Integer.MIN_VALUE, Integer.MAX_VALUE};
    private static final int[] SCRIBES = {0, 1, -1, 3, 8};

    private RefusalBounds() {
    }

    static void all() {
        changesNothing();
        Document.terms("If several exceptions apply, the one that is named first is thrown.");
        addHabit();
        copy();
        copyWithoutRoom();
        emend();
        loseAndAdvise();
        find();
        trial();
    }

    private static CopyHouse some() {
        CopyHouse x = Scenes.habits(5);
        x.addScribe();
        Desk.habit(x, 2, Desk.CHANGE, 'a', 'z', 2);
        x.copy(0, 1);
        x.copy(0, 2);
        Desk.written(x, "cabcab");
        return Scenes.withLost(x, 1, 2);
    }

    /** With 24 manuscripts; 0 is there, 1 is lost. */
    private static CopyHouse without() {
        return Scenes.withLost(Scenes.line(), 1);
    }

    private static boolean noManuscript(int number) {
        return number < 0 || number > 3;
    }

    private static boolean lost(int number) {
        return number == 1 || number == 2;
    }

    private static boolean noScribe(int number) {
        return number < 0 || number > 2;
    }

    /** The first one that applies is due; if none does, nothing is thrown. */
    private static void due(Bound.Scene scene, String call, boolean index, boolean argument, boolean state,
            Bound.Act act) {
        if (index || argument || state) {
            Bound.refused(scene, call, index ? INDEX : argument ? ARGUMENT : STATE, act);
        } else {
            Bound.passes(scene, call, act);
        }
    }

    private static void addHabit() {
        int[][] goodAndBad = {
            {0, 0, 0, 1}, {4, 25, 25, 9}, {-1, 0, 0, 1}, {5, 0, 0, 1}, {0, -1, 0, 1}, {0, 26, 0, 1}, {1, 0, -1, 1},
            {0, 0, 26, 1}, {0, 0, 0, 0}, {0, 0, 0, 10}, {5, 26, 26, 10},
        };
        for (int scribe : SCRIBES) {
            for (int i = 0; i < goodAndBad.length; i++) {
                int[] h = goodAndBad[i];
                String call = "addHabit(" + scribe + ", " + h[0] + ", " + h[1] + ", " + h[2] + ", " + h[3] + ")";
                due(RefusalBounds::some, call, noScribe(scribe), i > 1, scribe == 1,
                        x -> x.addHabit(scribe, h[0], h[1], h[2], h[3]));
            }
        }
    }

    private static void copy() {
        for (int exemplar : MANUSCRIPTS) {
            for (int scribe : SCRIBES) {
                due(RefusalBounds::some, "copy(" + exemplar + ", " + scribe + ")",
                        noManuscript(exemplar) || noScribe(scribe), false, lost(exemplar),
                        x -> x.copy(exemplar, scribe));
            }
        }
    }

    private static void copyWithoutRoom() {
        for (int exemplar : new int[] {0, 1, 23, 24, -1}) {
            for (int scribe : new int[] {0, 1, 2, -1}) {
                due(RefusalBounds::without, "copy(" + exemplar + ", " + scribe + ") behind 24",
                        exemplar == 24 || exemplar < 0 || scribe == 2 || scribe < 0, false, true,
                        x -> x.copy(exemplar, scribe));
            }
        }
        Bound.badState(RefusalBounds::without, "write() behind 24", x -> x.write());
    }

    /** All texts have six letters, but for that of 1. */
    private static void emend() {
        int[][] goodAndBad = {
            {0, 1}, {0, 4}, {0, 0}, {0, 121}, {0, 7}, {-1, 1}, {6, 1}, {5, 2}, {-1, 0}, {Integer.MAX_VALUE, 120},
            {Integer.MIN_VALUE, Integer.MIN_VALUE},
        };
        for (int manuscript : MANUSCRIPTS) {
            for (int by : MANUSCRIPTS) {
                for (int i = 0; i < goodAndBad.length; i++) {
                    int place = goodAndBad[i][0];
                    int many = goodAndBad[i][1];
                    due(RefusalBounds::some, "emend(" + manuscript + ", " + by + ", " + place + ", " + many + ")",
                            noManuscript(manuscript) || noManuscript(by), i > 1, lost(manuscript) || lost(by),
                            x -> x.emend(manuscript, by, place, many));
                }
            }
        }
    }

    private static void loseAndAdvise() {
        for (int one : MANUSCRIPTS) {
            due(RefusalBounds::some, "lose(" + one + ")", noManuscript(one), false, lost(one), x -> x.lose(one));
            due(RefusalBounds::some, "advise(" + one + ")", noManuscript(one), false, lost(one), x -> x.advise(one));
        }
    }

    private static void find() {
        int[][] goodAndBad = {
            {0, 0, -1}, {6, 25, 25}, {-1, 0, 0}, {0, -1, 0}, {0, 26, 0}, {0, 0, -2}, {0, 0, 26}, {-1, 26, 26},
        };
        for (int manuscript : MANUSCRIPTS) {
            for (int i = 0; i < goodAndBad.length; i++) {
                int[] h = goodAndBad[i];
                due(RefusalBounds::some, "find(" + manuscript + ", " + h[0] + ", " + h[1] + ", " + h[2] + ")",
                        noManuscript(manuscript), i > 1, false, x -> x.find(manuscript, h[0], h[1], h[2]));
            }
        }
    }

    private static void trial() {
        for (int exemplar : MANUSCRIPTS) {
            for (int scribe : SCRIBES) {
                for (int times : new int[] {1, 20, 0, 21, Integer.MIN_VALUE, Integer.MAX_VALUE}) {
                    for (int what : new int[] {0, 1, -1, 2}) {
                        due(RefusalBounds::some, "trial(" + exemplar + ", " + scribe + ", " + times + ", " + what + ")",
                                noManuscript(exemplar) || noScribe(scribe) || what < 0 || what > 1,
                                times < 1 || times > 20, lost(exemplar), x -> x.trial(exemplar, scribe, times, what));
                    }
                }
            }
        }
    }

    /** One refused call of each kind, and all of them one behind the other, on a small and on a full object. */
    private static void changesNothing() {
        Document.terms("A method that throws an exception changes nothing.");
        refusedInTurn(Scenes::small);
        refusedInTurn(Scenes::empty);
        refusedInTurn(() -> Scenes.taped(41));
        refusedInTurn(RefusalBounds::some);
        refusedInTurn(RefusalBounds::without);
        refusedInTurn(Scenes::full);
    }

    private static void refusedInTurn(Bound.Scene scene) {
        CopyHouse all = scene.made();
        Bound.Act[] refusals = refusals();
        int thrown = 0;
        for (int i = 0; i < refusals.length; i++) {
            CopyHouse x = scene.made();
            String told = Bound.told(x, refusals[i]);
            Check.due("refused call " + i + " answered " + told, !told.contains("machine"));
            if (!told.matches("-?\\d+")) {
                Check.due("what comes behind refused call " + i, Bound.future(x), Bound.future(scene.made()));
                Bound.told(all, refusals[i]);
                thrown++;
            }
        }
        Check.due("at least 22 calls are refused", thrown >= 22);
        Check.due("what comes behind all refused calls", Bound.future(all), Bound.future(scene.made()));
    }

    /** All of them are refused somewhere; these with 0 alone are answered where there is something. */
    private static Bound.Act[] refusals() {
        return new Bound.Act[] {
            x -> x.feed(0x7a7a7a7a, 0x7a7a7a7a, 0x7a7a7a7a, 0x7a7a7a7a, 0x7a7a7a7a),
            x -> x.trim(61),
            x -> x.trim(-1),
            x -> x.write(),
            x -> x.letter(0, -1),
            x -> x.letter(24, 0),
            x -> x.addScribe(),
            x -> x.addHabit(8, 0, 0, 1, 1),
            x -> x.addHabit(0, 5, 0, 1, 1),
            x -> x.addHabit(0, 0, 0, 1, 10),
            x -> x.addHabit(1, 0, 0, 1, 1),
            x -> x.dropHabit(0, 5),
            x -> x.dropHabit(8, 0),
            x -> x.dropHabit(0, -1),
            x -> x.habit(0, 0, 4),
            x -> x.habit(8, 0, 0),
            x -> x.copy(0, 8),
            x -> x.copy(24, 0),
            x -> x.copy(1, 0),
            x -> x.emend(0, 24, 0, 1),
            x -> x.emend(0, 0, 0, 121),
            x -> x.emend(0, 3, 60, 1),
            x -> x.emend(0, 1, 0, 1),
            x -> x.lose(24),
            x -> x.lose(1),
            x -> x.manuscript(0, 9),
            x -> x.count(8),
            x -> x.distance(0, 24),
            x -> x.common(24, 0),
            x -> x.guess(-1),
            x -> x.find(0, -1, 0, 0),
            x -> x.find(24, 0, 0, 0),
            x -> x.vote(120),
            x -> x.voteDistance(24),
            x -> x.trial(0, 0, 21, 0),
            x -> x.trial(0, 0, 1, 2),
            x -> x.trial(1, 0, 1, 0),
            x -> x.advise(24),
            x -> x.advise(1),
        };
    }
}
