import java.util.LinkedHashMap;
import java.util.Map;
import java.util.function.Consumer;
import java.util.function.Supplier;
import java.util.function.ToLongFunction;

// What the tests of single sentences share: checks, houses to begin with, and pictures of houses.
final class Edges {
    static final int NONE = -1;
    static final int NEW = 1, READ = 2, READ_ANSWER = 3, VOTE = 4, VOTE_ANSWER = 5, COMPLETE = 6, ACTIVE = 7;
    static final int IS_MADE = 0, IS_READING = 1, IS_MOVING = 2, IS_ASKING = 3, IS_ACTIVE = 4;
    static final int ROOM = 400;

    // Beside the nearest wrong numbers, those that a shift or a byte would wrap into right ones.
    static final int[] NO_PLACE = {-1, 8, 9, -8, 31, 32, 33, 40, 64, -32, 256, Integer.MIN_VALUE, Integer.MAX_VALUE};
    static final int[] NO_BALLOT_OF_TWO = {0, 3, -1, -2, 4, 24, 25, 33, 257, 258, Integer.MIN_VALUE, Integer.MAX_VALUE};
    static final int[] NO_VOTER_OF_THREE = {-1, 3, 4, 6, 7, 8, 31, 32, 33, 64, -32, Integer.MIN_VALUE, Integer.MAX_VALUE};

    private static String sentence = "";
    private static int sentences = 0;
    private static int wrong = 0;

    private Edges() {
    }

    static void test(String said, Runnable test) {
        sentence = said;
        sentences++;
        try {
            test.run();
        } catch (RuntimeException e) {
            fail("threw " + e);
        }
    }

    static void finish() {
        System.out.println(sentences + " sentences, " + wrong + " answers are not as due");
        if (wrong != 0) {
            System.exit(1);
        }
    }

    private static void fail(String what) {
        wrong++;
        System.out.println("[" + sentence + "] " + what);
    }

    static void due(String call, long got, long want) {
        if (got != want) {
            fail(call + " answered " + got + ", due is " + want);
        }
    }

    static void due(String call, boolean got, boolean want) {
        if (got != want) {
            fail(call + " answered " + got + ", due is " + want);
        }
    }

    static void letter(BallotHouse x, int k, int... parts) {
        for (int what = 0; what < parts.length; what++) {
            due("air(" + k + ", " + what + ")", x.air(k, what), parts[what]);
        }
    }

    // Ballot 1, of all voters, is active, and the air is empty.
    static BallotHouse active(int voters, int r, int w) {
        BallotHouse x = new BallotHouse(voters);
        x.ballot((1 << voters) - 1, r, w);
        x.settle(3);
        return x;
    }

    // Three voters; 50 is chosen in place 0 by ballot 1, and ballot 2 is in this state. In the air:
    // MADE: NEW; READING: READ to 0, 1, 2; MOVING: READ ANSWER of 2, VOTE to 0, 1, 2;
    // ASKING: VOTE ANSWER of 2, COMPLETE; ACTIVE: nothing.
    static BallotHouse inState(int state) {
        BallotHouse x = active(3, 2, 2);
        x.propose(1, 0, 50);
        x.settle(6);
        x.ballot(7, 2, 2);
        int[] deliveries = {0, 1, 1 + 5, 1 + 5 + 6, 1 + 5 + 6 + 3};
        x.settle(deliveries[state]);
        return x;
    }

    // Seven voters, ballot 1 has proposed 10 + place in each place, and so many VOTES (56 to 400) lie
    // in the air, the first of them to voter 0 in place 0.
    static BallotHouse crowd(int letters) {
        BallotHouse x = active(7, 4, 4);
        for (int place = 0; place < 8; place++) {
            x.propose(1, place, 10 + place);
        }
        int size = 56;
        for (; size + 56 <= letters; size += 56) {
            x.again(1);
        }
        for (; size < letters; size++) {
            x.twice(size % 56);
        }
        return x;
    }

    static void loseAll(BallotHouse x) {
        for (int left = x.about(3); left > 0; left--) {
            x.lose(0);
        }
    }

    // A house's answers to all questions. It is made anew for each few of them, since nothing is
    // promised behind a house's 512th call.
    private static final class Picture {
        private static final int AT_ONCE = 64;
        private final Supplier<BallotHouse> house;
        private final Map<String, Long> answers = new LinkedHashMap<>();
        private BallotHouse x;

        Picture(Supplier<BallotHouse> house) {
            this.house = house;
            int voters = (int) ask("about(0)", h -> h.about(0));
            int ballots = (int) ask("about(1)", h -> h.about(1));
            ask("about(2)", h -> h.about(2));
            int letters = (int) ask("about(3)", h -> h.about(3));
            ask("about(4)", h -> h.about(4));
            for (int voter = 0; voter < voters; voter++) {
                askVoter(voter);
            }
            for (int number = 1; number <= ballots; number++) {
                askBallot(number);
            }
            for (int k = 0; k < letters; k++) {
                askLetter(k);
            }
            for (int place = 0; place < 8; place++) {
                askPlace(place);
            }
        }

        private long ask(String question, ToLongFunction<BallotHouse> asked) {
            if (answers.size() % AT_ONCE == 0) {
                x = house.get();
            }
            long answer = asked.applyAsLong(x);
            answers.put(question, answer);
            return answer;
        }

        private void askVoter(int voter) {
            ask("promise(" + voter + ")", h -> h.promise(voter));
            for (int i = 0; i < 8; i++) {
                int place = i;
                ask("vote(" + voter + ", " + place + ")", h -> h.vote(voter, place));
                ask("value(" + voter + ", " + place + ")", h -> h.value(voter, place));
            }
        }

        private void askBallot(int number) {
            for (int i = 0; i <= 8; i++) {
                int what = i;
                ask("of(" + number + ", " + what + ")", h -> h.of(number, what));
            }
            for (int i = 0; i < 8; i++) {
                int place = i;
                ask("answered(" + number + ", " + place + ")", h -> h.answered(number, place));
                ask("said(" + number + ", " + place + ")", h -> h.said(number, place));
            }
        }

        private void askLetter(int k) {
            for (int i = 0; i <= 4; i++) {
                int what = i;
                ask("air(" + k + ", " + what + ")", h -> h.air(k, what));
            }
        }

        private void askPlace(int place) {
            ask("chosen(" + place + ")", h -> h.chosen(place));
            ask("chosenValue(" + place + ")", h -> h.chosenValue(place));
            ask("isOne(" + place + ")", h -> h.isOne(place) ? 1 : 0);
        }
    }

    private static BallotHouse with(Supplier<BallotHouse> house, Consumer<BallotHouse> calls) {
        BallotHouse x = house.get();
        calls.accept(x);
        return x;
    }

    private static void compare(String call, Supplier<BallotHouse> is, Supplier<BallotHouse> asThis) {
        Map<String, Long> got = new Picture(is).answers;
        Map<String, Long> want = new Picture(asThis).answers;
        if (got.equals(want)) {
            return;
        }
        for (String question : want.keySet()) {
            if (!want.get(question).equals(got.get(question))) {
                fail(call + ": then " + question + " answered " + got.get(question) + ", due is " + want.get(question));
                return;
            }
        }
        fail(call + ": there is more than is due");
    }

    // Both rows of calls leave the same house; so it stays when all that can come has come, and when
    // nobody is silent any more.
    static void alike(String call, Supplier<BallotHouse> house, Consumer<BallotHouse> one, Consumer<BallotHouse> other) {
        Consumer<BallotHouse> settle = x -> x.settle(5000);
        Consumer<BallotHouse> speak = x -> {
            for (int voter = 0; voter < 7; voter++) {
                x.silent(voter, false);
            }
        };
        compare(call, () -> with(house, one), () -> with(house, other));
        compare(call + ", settle", () -> with(house, one.andThen(settle)), () -> with(house, other.andThen(settle)));
        compare(call + ", all speak, settle", () -> with(house, one.andThen(speak).andThen(settle)),
            () -> with(house, other.andThen(speak).andThen(settle)));
    }

    static void doesNothing(String call, Supplier<BallotHouse> house, Consumer<BallotHouse> calls) {
        alike(call, house, calls, x -> { });
    }

    // What changes nothing as it comes might as well have been lost.
    static void comesInVain(String call, Supplier<BallotHouse> house, int k) {
        due(call + ": deliver(" + k + ")", house.get().deliver(k), true);
        alike(call, house, x -> x.deliver(k), x -> x.lose(k));
    }
}
