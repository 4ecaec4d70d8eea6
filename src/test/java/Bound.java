/** Calls on fresh objects, just below, at and just above a boundary. */
final class Bound {
    /** Builds an object; each time the same. */
    interface Scene {
        CopyHouse made();
    }

    interface Act {
        long on(CopyHouse x);
    }

    interface Numbered {
        long on(CopyHouse x, int number);
    }

    private static final Class<IndexOutOfBoundsException> NO_PLACE = IndexOutOfBoundsException.class;

    private Bound() {
    }

    /** What a call answers, or the exception that it throws. */
    static String told(CopyHouse x, Act act) {
        try {
            return String.valueOf(act.on(x));
        } catch (RuntimeException e) {
            return Check.thrownByWill(e) ? e.getClass().getName() : "the machine's " + e;
        }
    }

    static void answers(Scene scene, String call, Act act, long want) {
        Check.due(call, told(scene.made(), act), String.valueOf(want));
    }

    /** The call makes a manuscript with this text. */
    static void makes(Scene scene, String call, Act act, String want) {
        CopyHouse x = scene.made();
        Check.due("the text of " + call, Desk.text(x, (int) act.on(x)), want);
    }

    /** The call answers whatever it may, but throws nothing. */
    static void passes(Scene scene, String call, Act act) {
        String got = told(scene.made(), act);
        Check.due(call + " throws nothing, answered " + got, got.matches("-?\\d+"));
    }

    /** The call throws this, and the object is like a twin that had no such call, also in all that follows. */
    static void refused(Scene scene, String call, Class<? extends RuntimeException> want, Act act) {
        CopyHouse x = scene.made();
        Check.due(call, told(x, act), want.getName());
        Check.due(call + " is refused; what comes behind it", future(x), future(scene.made()));
    }

    static void noPlace(Scene scene, String call, Act act) {
        refused(scene, call, NO_PLACE, act);
    }

    static void badArgument(Scene scene, String call, Act act) {
        refused(scene, call, IllegalArgumentException.class, act);
    }

    static void badState(Scene scene, String call, Act act) {
        refused(scene, call, IllegalStateException.class, act);
    }

    /** All that a digest tells, what is written on the tape, and what all calls that change something make. */
    static String future(CopyHouse x) {
        Act[] all = {
            y -> y.digest(),
            y -> y.write(),
            y -> y.digest(),
            y -> y.feed(0x6162637a, 0x61616262, 0, 0, 0),
            y -> y.trim(8),
            y -> y.write(),
            y -> y.copy(0, 0),
            y -> y.addScribe(),
            y -> y.addHabit(0, 0, 0, 1, 1),
            y -> y.copy(1, 0),
            y -> y.emend(1, 0, 0, 1),
            y -> y.dropHabit(0, 0),
            y -> y.lose(0),
            y -> y.digest(),
        };
        StringBuilder answers = new StringBuilder();
        for (Act one : all) {
            answers.append(told(x, one)).append(' ');
        }
        return answers.toString();
    }

    /** Numbers that are not least to greatest: next to these, far away, and such as become others in fewer bits. */
    static int[] outside(int least, int greatest) {
        return new int[] {
            least - 1, greatest + 1, Integer.MIN_VALUE, Integer.MIN_VALUE + 1, least - 256, least + 256,
            least + 65536, Integer.MAX_VALUE - 1, Integer.MAX_VALUE,
        };
    }

    /** There are the manuscripts from 0 to one less than their number, the lost ones too, and no other ones. */
    static void manuscriptsOf(String call, Numbered act) {
        for (int many : new int[] {0, 1, 2, 23, 24}) {
            Scene scene = () -> Scenes.manuscripts(many);
            numbersOf(call + " of " + many + " manuscripts", scene, many, act);
            if (many > 0) {
                Scene lost = () -> Scenes.withLost(scene.made(), many - 1);
                numbersOf(call + " of " + many + " manuscripts, the last one lost", lost, many, act);
            }
        }
    }

    static void scribesOf(String call, Numbered act) {
        for (int many : new int[] {0, 1, 2, 7, 8}) {
            numbersOf(call + " of " + many + " scribes", () -> Scenes.scribes(many), many, act);
        }
    }

    /** 0 to many less 1 are known, and all else is refused. */
    static void numbersOf(String call, Scene scene, int many, Numbered act) {
        for (int number : outside(0, many - 1)) {
            noPlace(scene, call + ", number " + number, x -> act.on(x, number));
        }
        for (int number = 0; number < many; number += Math.max(1, many - 1)) {
            int one = number;
            String got = told(scene.made(), x -> act.on(x, one));
            Check.due(call + ", number " + one + " is known, answered " + got, !got.contains("OutOfBounds"));
        }
    }

    /** Least to greatest are answered, all else is refused in this way. */
    static void range(String call, Scene scene, int least, int greatest, Class<? extends RuntimeException> refusal,
            Numbered act) {
        for (int number : outside(least, greatest)) {
            refused(scene, call + " with " + number, refusal, x -> act.on(x, number));
        }
        for (int number : new int[] {least, Math.min(least + 1, greatest), Math.max(greatest - 1, least), greatest}) {
            passes(scene, call + " with " + number, x -> act.on(x, number));
        }
    }
}
