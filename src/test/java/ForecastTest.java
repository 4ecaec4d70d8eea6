/** Promises 19 to 25: voteLength, vote, voteDistance, trial, advise, decay, digest. */
final class ForecastTest {
    private static final int[] OUTSIDE = {Integer.MIN_VALUE, -1, 24, Integer.MAX_VALUE};

    public static void main(String[] args) {
        voteLength();
        vote();
        voteDistance();
        trial();
        trialRefused();
        trialFromEndToEnd();
        advise();
        decay();
        digest();
        Check.end();
    }

    private static void voteLength() {
        CopyHouse x = new CopyHouse();
        Check.due("of none", x.voteLength(), 0);
        Desk.written(x, "abcde");
        Check.due("of one", x.voteLength(), 5);
        Desk.written(x, "abc");
        Check.due("the least of two", x.voteLength(), 3);
        Desk.written(x, "abcdx");
        Check.due("most", x.voteLength(), 5);
        x.lose(0);
        Check.due("a lost one has no vote", x.voteLength(), 3);
        x.lose(1);
        Check.due("the last one", x.voteLength(), 5);
        x.lose(2);
        Check.due("all are lost", x.voteLength(), 0);
        Desk.written(x, Desk.repeated("a", 60));
        x.copy(3, Desk.scribe(x, Desk.DOUBLE, 'a', 'a', 1));
        x.lose(3);
        Check.due("a text of 120", x.voteLength(), 120);
        Check.due("its last letter", x.vote(119), 'a');
    }

    private static void vote() {
        CopyHouse x = new CopyHouse();
        for (int one : OUTSIDE) {
            Check.noPlace(x, "vote(" + one + ") of none", () -> x.vote(one));
        }
        Check.noPlace(x, "vote(0) of none", () -> x.vote(0));
        Desk.written(x, "zab");
        Check.due("of one", Desk.voted(x), "zab");
        Desk.written(x, "yax");
        Check.due("the first of the alphabet", Desk.voted(x), "yab");
        Desk.written(x, "zcx");
        Check.due("most", Desk.voted(x), "zax");
        Desk.written(x, "cccc");
        Desk.written(x, "ccc");
        Desk.written(x, "czc");
        Check.due("of this length alone", Desk.voted(x), "cac");
        x.lose(0);
        Check.due("a lost one has no vote", Desk.voted(x), "ccc");
        Check.noPlace(x, "vote(-1)", () -> x.vote(-1));
        Check.noPlace(x, "vote(3)", () -> x.vote(3));
        Check.noPlace(x, "vote(greatest)", () -> x.vote(Integer.MAX_VALUE));
        Check.noPlace(x, "vote(least)", () -> x.vote(Integer.MIN_VALUE));
    }

    private static void voteDistance() {
        CopyHouse x = new CopyHouse();
        Check.noPlace(x, "voteDistance of none", () -> x.voteDistance(0));
        Desk.written(x, "abcd");
        Desk.written(x, "abce");
        Desk.written(x, "abxe");
        Desk.written(x, "zz");
        Check.due("voted", Desk.voted(x), "abce");
        Check.due("voteDistance(0)", x.voteDistance(0), 1);
        Check.due("voteDistance(1)", x.voteDistance(1), 0);
        Check.due("voteDistance(2)", x.voteDistance(2), 1);
        Check.due("voteDistance(3)", x.voteDistance(3), 4);
        for (int one : OUTSIDE) {
            Check.noPlace(x, "voteDistance(" + one + ")", () -> x.voteDistance(one));
        }
        Check.noPlace(x, "voteDistance(4)", () -> x.voteDistance(4));
        x.lose(3);
        Check.due("of a lost one", x.voteDistance(3), 4);
        x.lose(0);
        x.lose(1);
        x.lose(2);
        Check.due("none has a vote", x.voteDistance(0), 4);
    }

    private static void trial() {
        CopyHouse x = new CopyHouse();
        Desk.written(x, "aab");
        int doubler = Desk.scribe(x, Desk.DOUBLE, 'a', 'a', 2);
        Check.due("length, once", x.trial(0, doubler, 1, 0), 4);
        Check.due("distance, once", x.trial(0, doubler, 1, 1), 1);
        Check.due("length, twice", x.trial(0, doubler, 2, 0), 5);
        Check.due("length, three times", x.trial(0, doubler, 3, 0), 7);
        Check.due("distance, three times", x.trial(0, doubler, 3, 1), 4);
        Check.due("length, 20 times", x.trial(0, doubler, 20, 0), 120);
        Check.due("distance, 20 times", x.trial(0, doubler, 20, 1), 117);
        int swapper = Desk.scribe(x, Desk.SWAP, 'a', 'b', 1);
        Check.due("distance of a swap", x.trial(0, swapper, 1, 1), 2);
        Check.due("distance of swaps", x.trial(0, swapper, 20, 1), 2);
        int none = Desk.scribe(x);
        Check.due("length without habits", x.trial(0, none, 20, 0), 3);
        Check.due("distance without habits", x.trial(0, none, 20, 1), 0);
        Check.due("no manuscript is made", x.count(0), 1);
        Check.due("the text stays", Desk.text(x, 0), "aab");
    }

    private static void trialRefused() {
        CopyHouse x = new CopyHouse();
        Desk.written(x, "aab");
        Check.noPlace(x, "trial without scribes", () -> x.trial(0, 0, 1, 0));
        x.addScribe();
        int[] noTimes = {Integer.MIN_VALUE, -1, 0, 21, Integer.MAX_VALUE};
        int[] noWhats = {Integer.MIN_VALUE, -1, 2, Integer.MAX_VALUE};
        for (int lost = 0; lost < 2; lost++) {
            for (int times : noTimes) {
                Check.badArgument(x, "trial, times " + times, () -> x.trial(0, 0, times, 0));
                Check.badArgument(x, "trial, times " + times, () -> x.trial(0, 0, times, 1));
                Check.noPlace(x, "trial, times and what", () -> x.trial(0, 0, times, 2));
            }
            for (int what : noWhats) {
                Check.noPlace(x, "trial, what " + what, () -> x.trial(0, 0, 1, what));
            }
            for (int one : OUTSIDE) {
                Check.noPlace(x, "trial, exemplar " + one, () -> x.trial(one, 0, 0, 0));
                Check.noPlace(x, "trial, scribe " + one, () -> x.trial(0, one, 0, 0));
            }
            Check.noPlace(x, "trial, exemplar 1", () -> x.trial(1, 0, 1, 0));
            Check.noPlace(x, "trial, scribe 1", () -> x.trial(0, 1, 1, 0));
            if (lost == 0) {
                x.lose(0);
            }
        }
        Check.badState(x, "trial of a lost one", () -> x.trial(0, 0, 1, 0));
        Check.badState(x, "trial of a lost one", () -> x.trial(0, 0, 20, 1));
    }

    /** A trial tells the same as copies that are made, also if there is no room for these. */
    private static void trialFromEndToEnd() {
        CopyHouse x = new CopyHouse();
        Desk.written(x, "scriptorium");
        int scribe = Desk.scribe(x, Desk.DOUBLE, 'i', 'a', 2);
        Desk.habit(x, scribe, Desk.SWAP, 'i', 'p', 1);
        Desk.habit(x, scribe, Desk.CHANGE, 'r', 'i', 2);
        for (int times = 1; times <= 20; times++) {
            int copy = x.copy(times - 1, scribe);
            Check.due("length, " + times, x.trial(0, scribe, times, 0), x.manuscript(copy, 0));
            Check.due("distance, " + times, x.trial(0, scribe, times, 1), x.distance(0, copy));
        }
        x.copy(20, scribe);
        x.copy(21, scribe);
        x.copy(22, scribe);
        Check.due("without room", x.trial(20, scribe, 1, 0), x.manuscript(21, 0));
    }

    private static void advise() {
        CopyHouse x = new CopyHouse();
        Check.noPlace(x, "advise of none", () -> x.advise(0));
        Desk.written(x, "aaab");
        Check.due("without scribes", x.advise(0), -1);
        Desk.scribe(x, Desk.CHANGE, 'a', 'z', 1);
        Check.due("the only one", x.advise(0), 0);
        Desk.scribe(x, Desk.DROP, 'b', 'z', 1);
        Desk.scribe(x, Desk.DROP, 'a', 'z', 3);
        Check.due("the first of the best", x.advise(0), 1);
        Desk.scribe(x, Desk.DROP, 'a', 'z', 4);
        Desk.scribe(x);
        Check.due("the best", x.advise(0), 3);
        for (int one : OUTSIDE) {
            Check.noPlace(x, "advise(" + one + ")", () -> x.advise(one));
        }
        Check.noPlace(x, "advise(1)", () -> x.advise(1));
        x.lose(0);
        Check.badState(x, "advise of a lost one", () -> x.advise(0));
        Check.due("no manuscript is made", x.count(0), 1);
        Check.due("the text stays", Desk.text(x, 0), "aaab");
        Check.due("a copy that leaves nothing of 120 letters", worstAdvice(), 0);
    }

    private static int worstAdvice() {
        CopyHouse full = new CopyHouse();
        Desk.written(full, Desk.repeated("a", 60));
        Desk.scribe(full, Desk.DOUBLE, 'a', 'a', 1);
        int longest = full.copy(0, 0);
        full.dropHabit(0, 0);
        Desk.habit(full, 0, Desk.DROP, 'a', 'a', 1);
        return full.advise(longest);
    }

    private static void decay() {
        CopyHouse x = new CopyHouse();
        Check.due("of none", x.decay(), 0.0);
        Desk.written(x, "aabb");
        Check.due("of an origin", x.decay(), 0.0);
        int changer = Desk.scribe(x, Desk.CHANGE, 'a', 'z', 2);
        int dropper = Desk.scribe(x, Desk.DROP, 'b', 'z', 1);
        x.copy(0, changer);
        Check.due("of two", x.decay(), 0.5);
        x.copy(1, dropper);
        Check.due("of three: 0, 1 and 3", x.decay(), 4.0 / 3.0);
        x.lose(0);
        Check.due("with the origin lost", x.decay(), 2.0);
        x.lose(1);
        Check.due("with the exemplar lost", x.decay(), 3.0);
        x.lose(2);
        Check.due("with all lost", x.decay(), 0.0);
    }

    private static void digest() {
        CopyHouse x = new CopyHouse();
        long none = 491;
        for (int i = 0; i < 9; i++) {
            none *= 31;
        }
        Check.due("digest of a new object", x.digest(), none);
        Desk.written(x, "b");
        // Counts 1 1 0 1 0 0 1 0; the manuscript 1 -1 -1 0 1 0 0 0 0, guess -1, b; voted 1, b.
        int[] numbers = {1, 1, 0, 1, 0, 0, 1, 0, 1, -1, -1, 0, 1, 0, 0, 0, 0, -1, 98, 1, 98};
        long one = 491;
        for (int number : numbers) {
            one = one * 31 + number;
        }
        Check.due("digest of one manuscript", x.digest(), one);
        digestGrows();
    }

    private static void digestGrows() {
        for (int steps = 0; steps < 4; steps++) {
            int step = steps;
            CopyHouse x = grown(step);
            Check.due("digest, step " + step, x.digest(), Desk.digestByFace(() -> grown(step)));
            Check.due("digest again", x.digest(), x.digest());
        }
    }

    /** A manuscript; with scribes, too; with copies; with a lost one, and a tape. */
    private static CopyHouse grown(int steps) {
        CopyHouse x = new CopyHouse();
        Desk.written(x, "b");
        if (steps > 0) {
            int scribe = Desk.scribe(x, Desk.SWAP, 'b', 'y', 9);
            Desk.scribe(x);
            Desk.habit(x, scribe, Desk.DOUBLE, 'b', 'c', 1);
        }
        if (steps > 1) {
            x.copy(0, 0);
            x.copy(1, 0);
            x.copy(1, 1);
        }
        if (steps > 2) {
            x.lose(1);
            Desk.tape(x, "xyz");
        }
        return x;
    }
}
