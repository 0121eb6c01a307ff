import java.util.function.Consumer;
import java.util.function.Supplier;

// Each sentence of promises 1 to 20 that names a boundary case has its own test here.
public final class PromiseEdgesTest {
    private static final int NONE = Edges.NONE;
    private static final int LEAST = Integer.MIN_VALUE;
    private static final int MOST = Integer.MAX_VALUE;

    public static void main(String[] args) {
        newObject();
        ballot();
        propose();
        again();
        deliver();
        settle();
        lose();
        twice();
        silent();
        promise();
        vote();
        value();
        of();
        answered();
        said();
        chosen();
        chosenValue();
        isOne();
        air();
        about();
        Edges.finish();
    }

    private static void due(String call, long got, long want) {
        Edges.due(call, got, want);
    }

    private static void due(String call, boolean got, boolean want) {
        Edges.due(call, got, want);
    }

    private static Supplier<BallotHouse> in(int state) {
        return () -> Edges.inState(state);
    }

    // ---- 1

    private static void newObject() {
        Edges.test("1: So many VOTERS", () -> votersOf(new int[] {1, 2, 3, 4, 5, 6, 7}, 0));
        Edges.test("1: (1 below 1)", () -> votersOf(new int[] {0, -1, -7, -8, LEAST, LEAST + 1, LEAST + 7}, 1));
        Edges.test("1: (7 above 7)", () -> votersOf(new int[] {8, 9, 32, 256, 263, MOST}, 7));
        Edges.test("1: a new object is empty", PromiseEdgesTest::newIsEmpty);
    }

    private static void votersOf(int[] asked, int want) {
        for (int voters : asked) {
            int many = want == 0 ? voters : want;
            BallotHouse x = new BallotHouse(voters);
            due("BallotHouse(" + voters + "): about(0)", x.about(0), many);
            due("BallotHouse(" + voters + "): the last voter's promise", x.promise(many - 1), 0);
            due("BallotHouse(" + voters + "): one voter more", x.promise(many), NONE);
            due("BallotHouse(" + voters + "): a ballot of all", x.ballot((1 << many) - 1, 1, many), 1);
        }
    }

    private static void newIsEmpty() {
        BallotHouse x = new BallotHouse(7);
        due("settle(9)", x.settle(9), 0);
        due("about(1)", x.about(1), 0);
        due("about(2)", x.about(2), 0);
        due("about(3)", x.about(3), 0);
        due("about(4)", x.about(4), 0);
        for (int place = 0; place < 8; place++) {
            due("chosen(" + place + ")", x.chosen(place), NONE);
        }
    }

    // ---- 2

    private static void ballot() {
        Edges.test("2: these MEMBERS (as bits), R and W: its number", PromiseEdgesTest::ballotMakes);
        Edges.test("2: NONE: no MEMBERS", () -> cannotBe(new int[][] {{0, 1, 1}, {0, 0, 1}, {0, 1, 0}, {0, 0, 0}}));
        Edges.test("2: NONE: MEMBERS that are no VOTERS", () -> cannotBe(new int[][] {
            {8, 1, 1}, {15, 2, 3}, {9, 1, 2}, {128, 1, 1}, {256, 1, 1}, {263, 2, 3}, {1 << 30, 1, 1}, {LEAST, 1, 1},
            {LEAST + 7, 2, 3}, {-1, 2, 2}, {-1, 17, 17}, {-8, 15, 15}, {MOST, 16, 16}}));
        Edges.test("2: NONE: R below 1", () -> cannotBe(new int[][] {{7, 0, 3}, {7, -1, 3}, {1, 0, 1}, {7, LEAST, 3}}));
        Edges.test("2: NONE: R above as many as they are", () -> cannotBe(new int[][] {
            {7, 4, 1}, {7, 4, 3}, {5, 3, 1}, {1, 2, 1}, {7, MOST, 1}, {7, 33, 1}, {6, 3, 2}}));
        Edges.test("2: NONE: W below 1", () -> cannotBe(new int[][] {{7, 3, 0}, {7, 3, -1}, {1, 1, 0}, {7, 3, LEAST}}));
        Edges.test("2: NONE: W above as many as they are", () -> cannotBe(new int[][] {
            {7, 1, 4}, {7, 3, 4}, {5, 1, 3}, {1, 1, 2}, {7, 1, MOST}, {7, 1, 33}, {6, 2, 3}}));
        Edges.test("2: NONE: R + W not more than they are", () -> cannotBe(new int[][] {
            {7, 1, 1}, {7, 1, 2}, {7, 2, 1}, {3, 1, 1}, {6, 1, 1}}));
        Edges.test("2: NONE: R + W wraps around", () -> cannotBe(new int[][] {
            {7, MOST, MOST}, {7, LEAST, LEAST}, {7, LEAST, MOST}, {7, MOST, LEAST}, {7, LEAST, LEAST + 4}}));
        Edges.test("2: NONE, doing nothing: these can't be", PromiseEdgesTest::refusedBallotDoesNothing);
        Edges.test("2: NONE, doing nothing: or there are 24", PromiseEdgesTest::the25thDoesNothing);
        Edges.test("2: a BALLOT is made though its NEW finds 400", PromiseEdgesTest::ballotInFullAir);
    }

    private static void ballotMakes() {
        int[][] can = {{1, 1, 1}, {4, 1, 1}, {7, 1, 3}, {7, 3, 1}, {7, 2, 2}, {7, 3, 3}, {5, 1, 2}, {5, 2, 1}, {6, 2, 2}};
        BallotHouse x = new BallotHouse(3);
        for (int i = 0; i < can.length; i++) {
            due("ballot(" + can[i][0] + ", ..)", x.ballot(can[i][0], can[i][1], can[i][2]), i + 1);
            for (int what = 0; what < 3; what++) {
                due("of(.., " + (what + 1) + ")", x.of(i + 1, what + 1), can[i][what]);
            }
        }
    }

    private static void cannotBe(int[][] asked) {
        BallotHouse x = new BallotHouse(3);
        for (int[] a : asked) {
            due("ballot(" + a[0] + ", " + a[1] + ", " + a[2] + ")", x.ballot(a[0], a[1], a[2]), NONE);
        }
        due("about(1)", x.about(1), 0);
        due("about(3)", x.about(3), 0);
        due("the next is made as if nothing had been", x.ballot(7, 2, 2), 1);
    }

    private static void refusedBallotDoesNothing() {
        Consumer<BallotHouse> refused = x -> {
            x.ballot(0, 1, 1);
            x.ballot(1 << 7, 1, 1);
            x.ballot(7, 0, 3);
            x.ballot(7, 3, 4);
            x.ballot(7, 1, 2);
        };
        Edges.doesNothing("refused ballots", in(Edges.IS_MOVING), refused);
        Edges.doesNothing("refused ballots in a full air", () -> Edges.crowd(400), refused);
    }

    private static BallotHouse twentyFour() {
        BallotHouse x = new BallotHouse(3);
        for (int number = 1; number <= 24; number++) {
            x.ballot(7, 2, 2);
        }
        return x;
    }

    private static void the25thDoesNothing() {
        BallotHouse x = new BallotHouse(3);
        for (int number = 1; number <= 24; number++) {
            due("ballot(7, 2, 2)", x.ballot(7, 2, 2), number);
        }
        due("the 25th", x.ballot(7, 2, 2), NONE);
        due("about(1)", x.about(1), 24);
        due("about(3)", x.about(3), 24);
        Edges.doesNothing("the 25th", PromiseEdgesTest::twentyFour, y -> {
            y.ballot(7, 2, 2);
            y.ballot(1, 1, 1);
        });
    }

    private static void ballotInFullAir() {
        BallotHouse x = Edges.crowd(400);
        due("ballot(3, 1, 2)", x.ballot(3, 1, 2), 2);
        due("of(2, 0)", x.of(2, 0), Edges.IS_MADE);
        due("of(2, 1)", x.of(2, 1), 3);
        due("about(1)", x.about(1), 2);
        due("about(4)", x.about(4), 1);
        due("air(399, 0)", x.air(399, 0), Edges.VOTE);
    }

    // ---- 3

    private static void propose() {
        Edges.test("3: true", PromiseEdgesTest::proposeIsTrue);
        Edges.test("3: false, doing nothing: there is none such (BALLOT)", PromiseEdgesTest::proposeWithoutBallot);
        Edges.test("3: false, doing nothing: there is none such (PLACE)", PromiseEdgesTest::proposeWithoutPlace);
        Edges.test("3: false, doing nothing: it is not ACTIVE (MADE)", () -> proposeNotActive(Edges.IS_MADE));
        Edges.test("3: false, doing nothing: it is not ACTIVE (READING)", () -> proposeNotActive(Edges.IS_READING));
        Edges.test("3: false, doing nothing: it is not ACTIVE (MOVING)", () -> proposeNotActive(Edges.IS_MOVING));
        Edges.test("3: false, doing nothing: it is not ACTIVE (ASKING)", () -> proposeNotActive(Edges.IS_ASKING));
        Edges.test("3: false, doing nothing: something was FOUND there", PromiseEdgesTest::proposeWhereFound);
        Edges.test("3: false, doing nothing: something was proposed there", PromiseEdgesTest::proposeWhereProposed);
        Edges.test("3: a value of 0 is something", PromiseEdgesTest::proposeZero);
        Edges.test("3: proposed though its VOTES find 400", PromiseEdgesTest::proposeInFullAir);
        Edges.test("3: an older BALLOT is ACTIVE still", PromiseEdgesTest::proposeByAnOlderOne);
        Edges.test("3: true, though another BALLOT has chosen there", PromiseEdgesTest::proposeWhereAnotherChose);
    }

    private static void proposeIsTrue() {
        BallotHouse x = Edges.inState(Edges.IS_ACTIVE);
        due("propose(2, 7, LEAST)", x.propose(2, 7, Long.MIN_VALUE), true);
        due("propose(2, 1, MOST)", x.propose(2, 1, Long.MAX_VALUE), true);
        due("of(2, 7)", x.of(2, 7), 130);
        due("said(2, 7)", x.said(2, 7), Long.MIN_VALUE);
        due("said(2, 1)", x.said(2, 1), Long.MAX_VALUE);
        due("about(3)", x.about(3), 6);
    }

    private static void proposeWithoutBallot() {
        BallotHouse x = Edges.inState(Edges.IS_ACTIVE);
        for (int ballot : Edges.NO_BALLOT_OF_TWO) {
            due("propose(" + ballot + ", 1, 5)", x.propose(ballot, 1, 5), false);
        }
        Edges.doesNothing("propose", in(Edges.IS_ACTIVE), y -> {
            for (int ballot : Edges.NO_BALLOT_OF_TWO) {
                y.propose(ballot, 1, 5);
            }
        });
        due("propose(1, 0, 5) with none made", new BallotHouse(1).propose(1, 0, 5), false);
    }

    private static void proposeWithoutPlace() {
        BallotHouse x = Edges.inState(Edges.IS_ACTIVE);
        for (int place : Edges.NO_PLACE) {
            due("propose(2, " + place + ", 5)", x.propose(2, place, 5), false);
        }
        Edges.doesNothing("propose", in(Edges.IS_ACTIVE), y -> {
            for (int place : Edges.NO_PLACE) {
                y.propose(2, place, 5);
            }
        });
    }

    private static void proposeNotActive(int state) {
        BallotHouse x = Edges.inState(state);
        due("of(2, 0)", x.of(2, 0), state);
        for (int place = 0; place < 8; place++) {
            due("propose(2, " + place + ", 5)", x.propose(2, place, 5), false);
        }
        Edges.doesNothing("propose", in(state), y -> {
            for (int place = 0; place < 8; place++) {
                y.propose(2, place, 5);
            }
        });
    }

    private static void proposeWhereFound() {
        due("propose(2, 0, 5)", Edges.inState(Edges.IS_ACTIVE).propose(2, 0, 5), false);
        due("propose(2, 0, 50)", Edges.inState(Edges.IS_ACTIVE).propose(2, 0, 50), false);
        Edges.doesNothing("propose", in(Edges.IS_ACTIVE), y -> y.propose(2, 0, 5));
    }

    private static BallotHouse proposed() {
        BallotHouse x = Edges.inState(Edges.IS_ACTIVE);
        x.propose(2, 6, 66);
        return x;
    }

    private static void proposeWhereProposed() {
        due("propose(2, 6, 5)", proposed().propose(2, 6, 5), false);
        due("propose(2, 6, 66)", proposed().propose(2, 6, 66), false);
        Edges.doesNothing("propose", PromiseEdgesTest::proposed, y -> y.propose(2, 6, 5));
    }

    private static void proposeZero() {
        BallotHouse x = Edges.active(1, 1, 1);
        due("propose(1, 0, 0)", x.propose(1, 0, 0), true);
        due("propose(1, 0, 1), 0 being proposed", x.propose(1, 0, 1), false);
        x.settle(2);
        x.ballot(1, 1, 1);
        x.settle(100);
        due("propose(2, 0, 1), 0 being FOUND", x.propose(2, 0, 1), false);
    }

    private static void proposeInFullAir() {
        BallotHouse x = Edges.active(2, 1, 2);
        x.propose(1, 0, 5);
        for (int k = 0; k < 397; k++) {
            x.twice(k);
        }
        due("propose(1, 1, 6) with room for one", x.propose(1, 1, 6), true);
        due("about(3)", x.about(3), 400);
        due("about(4)", x.about(4), 1);
        Edges.letter(x, 399, Edges.VOTE, 1, 0, 1, 0);
        due("of(1, 7)", x.of(1, 7), 3);
        due("propose(1, 2, 7) with room for none", x.propose(1, 2, 7), true);
        due("about(4)", x.about(4), 3);
        due("of(1, 7)", x.of(1, 7), 7);
        due("said(1, 2)", x.said(1, 2), 7);
    }

    private static void proposeByAnOlderOne() {
        BallotHouse x = Edges.inState(Edges.IS_ACTIVE);
        due("propose(1, 1, 5)", x.propose(1, 1, 5), true);
        x.settle(100);
        due("chosen(1): its VOTES come to higher PROMISES", x.chosen(1), NONE);
    }

    private static void proposeWhereAnotherChose() {
        BallotHouse x = Edges.inState(Edges.IS_ACTIVE);
        x.propose(2, 1, 5);
        x.settle(6);
        due("chosen(1)", x.chosen(1), 2);
        due("propose(1, 1, 6)", x.propose(1, 1, 6), true);
        due("about(3)", x.about(3), 3);
        x.settle(100);
        due("chosenValue(1)", x.chosenValue(1), 5);
        due("isOne(1)", x.isOne(1), true);
    }

    // ---- 4

    private static void again() {
        Edges.test("4: MADE: NEW", () -> againSends(Edges.IS_MADE, new int[][] {{Edges.NEW, 2, NONE, NONE, 0}}));
        Edges.test("4: READING: READ to those of its VOTERS (none has answered)", () -> againSends(Edges.IS_READING, new int[][] {
            {Edges.READ, 2, 0, NONE, 0}, {Edges.READ, 2, 1, NONE, 0}, {Edges.READ, 2, 2, NONE, 0}}));
        Edges.test("4: READING: to those .. that have not answered", PromiseEdgesTest::againReadingSome);
        Edges.test("4: READING: its VOTERS are those from BEHIND on", PromiseEdgesTest::againReadingFromBehind);
        Edges.test("4: MOVING: of each PLACE .. to those MEMBERS (none has answered)", () -> againSends(Edges.IS_MOVING, new int[][] {
            {Edges.VOTE, 2, 0, 0, 0}, {Edges.VOTE, 2, 1, 0, 0}, {Edges.VOTE, 2, 2, 0, 0}}));
        Edges.test("4: MOVING: to those MEMBERS that have not answered there", PromiseEdgesTest::againMovingSome);
        Edges.test("4: MOVING: of each PLACE that it does not KNOW", PromiseEdgesTest::againMovingUnknown);
        Edges.test("4: ASKING: COMPLETE", () -> againSends(Edges.IS_ASKING, new int[][] {{Edges.COMPLETE, 2, NONE, NONE, 0}}));
        Edges.test("4: ASKING: COMPLETE (though it is COMPLETE already)", PromiseEdgesTest::againWhenComplete);
        Edges.test("4: ACTIVE: (nothing to wait for)", () -> againSends(Edges.IS_ACTIVE, new int[][] {}));
        Edges.test("4: ACTIVE: of each PLACE that it does not KNOW", PromiseEdgesTest::againActive);
        Edges.test("4: ACTIVE: to those MEMBERS that have not answered there", PromiseEdgesTest::againActiveSome);
        Edges.test("4: ACTIVE: PLACES in order, its MEMBERS alone", PromiseEdgesTest::againActiveInOrder);
        Edges.test("4: how many were sent (also lost for want of room)", PromiseEdgesTest::againInFullAir);
        Edges.test("4: (also lost for want of room), in each STATE", PromiseEdgesTest::againInFullAirByState);
        Edges.test("4: NONE if there is none such", PromiseEdgesTest::againWithoutBallot);
        Edges.test("4: again and again", PromiseEdgesTest::againTwice);
    }

    private static void againSends(int state, int[][] letters) {
        BallotHouse x = Edges.inState(state);
        int before = x.about(3);
        due("again(2)", x.again(2), letters.length);
        due("about(3)", x.about(3), before + letters.length);
        for (int i = 0; i < letters.length; i++) {
            Edges.letter(x, before + i, letters[i]);
        }
        due("of(2, 0) stays", x.of(2, 0), state);
    }

    // Voter 1 has answered; voter 0 has, too, but its answer is still on its way.
    private static void againReadingSome() {
        BallotHouse x = Edges.inState(Edges.IS_READING);
        x.deliver(1);
        x.deliver(2);
        x.deliver(0);
        due("of(2, 5)", x.of(2, 5), 2);
        due("again(2)", x.again(2), 2);
        Edges.letter(x, 2, Edges.READ, 2, 0, NONE, 0);
        Edges.letter(x, 3, Edges.READ, 2, 2, NONE, 0);
        due("about(3)", x.about(3), 4);
    }

    private static void againReadingFromBehind() {
        BallotHouse x = new BallotHouse(4);
        x.ballot(1, 1, 1);
        x.settle(100);
        x.ballot(2, 1, 1);
        x.settle(100);
        x.ballot(4, 1, 1);
        x.ballot(8, 1, 1);
        x.lose(0);
        x.deliver(0);
        Edges.loseAll(x);
        due("again(4)", x.again(4), 2);
        Edges.letter(x, 0, Edges.READ, 4, 1, NONE, 0);
        Edges.letter(x, 1, Edges.READ, 4, 2, NONE, 0);
    }

    private static void againMovingSome() {
        BallotHouse x = Edges.inState(Edges.IS_MOVING);
        x.deliver(2);
        x.deliver(3);
        x.deliver(1);
        due("answered(2, 0)", x.answered(2, 0), 2);
        due("again(2)", x.again(2), 2);
        int size = x.about(3);
        Edges.letter(x, size - 2, Edges.VOTE, 2, 0, 0, 0);
        Edges.letter(x, size - 1, Edges.VOTE, 2, 2, 0, 0);
    }

    // Ballot 2 has found places 0, 3 and 7; of 3 two of three (W) answered, of 0 and 7 nobody.
    private static void againMovingUnknown() {
        BallotHouse x = Edges.active(3, 1, 3);
        x.propose(1, 0, 10);
        x.propose(1, 3, 13);
        x.propose(1, 7, 17);
        x.settle(100);
        x.ballot(7, 2, 2);
        x.settle(1 + 3 + 3);
        due("of(2, 0)", x.of(2, 0), Edges.IS_MOVING);
        x.deliver(3);
        x.deliver(3);
        x.deliver(8);
        x.deliver(7);
        due("of(2, 8)", x.of(2, 8), 8);
        due("answered(2, 3)", x.answered(2, 3), 3);
        Edges.loseAll(x);
        due("again(2)", x.again(2), 6);
        for (int k = 0; k < 6; k++) {
            Edges.letter(x, k, Edges.VOTE, 2, k % 3, k < 3 ? 0 : 7, 0);
        }
    }

    // Its ACTIVE is lost, so it asks for it anew.
    private static void againWhenComplete() {
        BallotHouse x = Edges.inState(Edges.IS_ASKING);
        x.settle(2);
        due("about(2)", x.about(2), 2);
        x.lose(0);
        due("again(2)", x.again(2), 1);
        Edges.letter(x, 0, Edges.COMPLETE, 2, NONE, NONE, 0);
        due("settle(9)", x.settle(9), 2);
        due("of(2, 0)", x.of(2, 0), Edges.IS_ACTIVE);
    }

    private static void againActive() {
        BallotHouse x = Edges.inState(Edges.IS_ACTIVE);
        x.propose(2, 4, 44);
        x.settle(100);
        x.propose(2, 5, 55);
        Edges.loseAll(x);
        due("of(2, 8)", x.of(2, 8), 1 + 16);
        due("again(2)", x.again(2), 3);
        for (int voter = 0; voter < 3; voter++) {
            Edges.letter(x, voter, Edges.VOTE, 2, voter, 5, 0);
        }
    }

    // Voter 1 has answered; voter 0 voted, but its answer was lost.
    private static void againActiveSome() {
        BallotHouse x = Edges.inState(Edges.IS_ACTIVE);
        x.propose(2, 5, 55);
        x.deliver(1);
        x.deliver(2);
        x.deliver(0);
        Edges.loseAll(x);
        due("answered(2, 5)", x.answered(2, 5), 2);
        due("vote(0, 5)", x.vote(0, 5), 2);
        due("again(2)", x.again(2), 2);
        Edges.letter(x, 0, Edges.VOTE, 2, 0, 5, 0);
        Edges.letter(x, 1, Edges.VOTE, 2, 2, 5, 0);
    }

    private static void againActiveInOrder() {
        BallotHouse x = new BallotHouse(7);
        x.ballot(2 + 64, 1, 2);
        x.settle(3);
        x.propose(1, 6, 66);
        x.propose(1, 1, 11);
        Edges.loseAll(x);
        due("again(1)", x.again(1), 4);
        Edges.letter(x, 0, Edges.VOTE, 1, 1, 1, 0);
        Edges.letter(x, 1, Edges.VOTE, 1, 6, 1, 0);
        Edges.letter(x, 2, Edges.VOTE, 1, 1, 6, 0);
        Edges.letter(x, 3, Edges.VOTE, 1, 6, 6, 0);
    }

    private static void againInFullAir() {
        BallotHouse x = Edges.crowd(400);
        due("again(1)", x.again(1), 56);
        due("about(3)", x.about(3), 400);
        due("about(4)", x.about(4), 56);
        x.lose(0);
        due("again(1) with room for one", x.again(1), 56);
        due("about(3)", x.about(3), 400);
        due("about(4)", x.about(4), 56 + 55);
        x.ballot(1, 1, 1);
        due("again(2) in MADE", x.again(2), 1);
        due("about(4)", x.about(4), 56 + 55 + 2);
    }

    private static void againInFullAirByState() {
        int[] sent = {1, 3, 3, 1};
        for (int state = Edges.IS_MADE; state <= Edges.IS_ASKING; state++) {
            BallotHouse x = Edges.inState(state);
            for (int left = 400 - x.about(3); left > 0; left--) {
                x.twice(0);
            }
            due("again(2) in " + state, x.again(2), sent[state]);
            due("about(3)", x.about(3), 400);
            due("about(4)", x.about(4), sent[state]);
            x.lose(0);
            due("again(2) in " + state + " with room for one", x.again(2), sent[state]);
            due("about(3)", x.about(3), 400);
            due("about(4)", x.about(4), 2 * sent[state] - 1);
        }
    }

    private static void againWithoutBallot() {
        BallotHouse x = Edges.inState(Edges.IS_MOVING);
        for (int ballot : Edges.NO_BALLOT_OF_TWO) {
            due("again(" + ballot + ")", x.again(ballot), NONE);
        }
        Edges.doesNothing("again", in(Edges.IS_MOVING), y -> {
            for (int ballot : Edges.NO_BALLOT_OF_TWO) {
                y.again(ballot);
            }
        });
        due("again(1) with none made", new BallotHouse(1).again(1), NONE);
    }

    private static void againTwice() {
        for (int state = Edges.IS_MADE; state <= Edges.IS_ASKING; state++) {
            BallotHouse x = Edges.inState(state);
            int sent = x.again(2);
            due("again(2) once more in " + state, x.again(2), sent);
            x.settle(100);
            due("of(2, 0) in the end", x.of(2, 0), Edges.IS_ACTIVE);
        }
    }

    // ---- 5

    private static void deliver() {
        Edges.test("5: What lies at k (the first, one between, the last)", PromiseEdgesTest::deliverAnywhere);
        Edges.test("5: and is there no more: true", PromiseEdgesTest::deliveredIsGone);
        Edges.test("5: is there no more, though it changes nothing", PromiseEdgesTest::deliveredInVainIsGone);
        Edges.test("5: false, doing nothing: there is none such", PromiseEdgesTest::deliverNothing);
        Edges.test("5: false, doing nothing: or it is for a SILENT VOTER", PromiseEdgesTest::deliverToSilent);
        Edges.test("5: a SILENT VOTER's answer is not for it", PromiseEdgesTest::deliverFromSilent);
        Edges.test("5: the last of 400", PromiseEdgesTest::deliverTheLastOf400);
    }

    private static void deliverAnywhere() {
        for (int k = 0; k < 3; k++) {
            BallotHouse x = Edges.inState(Edges.IS_READING);
            due("deliver(" + k + ")", x.deliver(k), true);
            for (int voter = 0; voter < 3; voter++) {
                due("promise(" + voter + ")", x.promise(voter), voter == k ? 2 : 1);
            }
            Edges.letter(x, 0, Edges.READ, 2, k == 0 ? 1 : 0, NONE, 0);
            Edges.letter(x, 1, Edges.READ, 2, k == 2 ? 1 : 2, NONE, 0);
            Edges.letter(x, 2, Edges.READ_ANSWER, 2, k, NONE, 1);
        }
    }

    private static void deliveredIsGone() {
        BallotHouse x = Edges.active(1, 1, 1);
        x.propose(1, 0, 5);
        due("deliver(0): a VOTE", x.deliver(0), true);
        due("deliver(0): its answer", x.deliver(0), true);
        due("about(3)", x.about(3), 0);
        due("deliver(0): no more", x.deliver(0), false);
    }

    private static void deliveredInVainIsGone() {
        BallotHouse x = Edges.inState(Edges.IS_MOVING);
        due("air(0, 0): too late", x.air(0, 0), Edges.READ_ANSWER);
        due("deliver(0)", x.deliver(0), true);
        due("about(3)", x.about(3), 3);
        due("air(0, 0)", x.air(0, 0), Edges.VOTE);
    }

    private static void deliverNothing() {
        int[] nowhere = {-1, 3, 4, 399, 400, 401, -32, -400, LEAST, MOST};
        BallotHouse x = Edges.inState(Edges.IS_READING);
        for (int k : nowhere) {
            due("deliver(" + k + ")", x.deliver(k), false);
        }
        Edges.doesNothing("deliver", in(Edges.IS_READING), y -> {
            for (int k : nowhere) {
                y.deliver(k);
            }
        });
        due("deliver(0) in an empty air", new BallotHouse(1).deliver(0), false);
        due("deliver(400) in a full air", Edges.crowd(400).deliver(400), false);
    }

    private static BallotHouse withSilent(int state, int voter) {
        BallotHouse x = Edges.inState(state);
        x.silent(voter, true);
        return x;
    }

    private static void deliverToSilent() {
        for (int voter = 0; voter < 3; voter++) {
            int silent = voter;
            BallotHouse x = withSilent(Edges.IS_READING, silent);
            BallotHouse y = withSilent(Edges.IS_MOVING, silent);
            due("deliver(" + voter + "): a READ", x.deliver(voter), false);
            due("deliver(" + (voter + 1) + "): a VOTE", y.deliver(voter + 1), false);
            Edges.doesNothing("deliver", () -> withSilent(Edges.IS_READING, silent), h -> h.deliver(silent));
            Edges.doesNothing("deliver", () -> withSilent(Edges.IS_MOVING, silent), h -> h.deliver(silent + 1));
        }
    }

    private static void deliverFromSilent() {
        BallotHouse x = withSilent(Edges.IS_READING, 1);
        x.silent(1, false);
        x.deliver(1);
        x.silent(1, true);
        due("deliver(2): its READ ANSWER", x.deliver(2), true);
        due("of(2, 5)", x.of(2, 5), 2);
        BallotHouse y = withSilent(Edges.IS_ASKING, 2);
        due("deliver(0): its VOTE ANSWER", y.deliver(0), true);
        due("answered(2, 0)", y.answered(2, 0), 7);
    }

    private static void deliverTheLastOf400() {
        BallotHouse x = Edges.crowd(400);
        int voter = x.air(399, 2);
        int place = x.air(399, 3);
        due("deliver(399)", x.deliver(399), true);
        due("vote", x.vote(voter, place), 1);
        due("about(3)", x.about(3), 400);
        Edges.letter(x, 399, Edges.VOTE_ANSWER, 1, voter, place, 0);
        due("air(398, 0)", x.air(398, 0), Edges.VOTE);
    }

    // ---- 6

    private static void settle() {
        Edges.test("6: at most n times (0)", () -> {
            due("settle(0)", Edges.inState(Edges.IS_READING).settle(0), 0);
            Edges.doesNothing("settle(0)", in(Edges.IS_READING), x -> x.settle(0));
        });
        Edges.test("6: at most n times (1)", PromiseEdgesTest::settleOnce);
        Edges.test("6: at most n times (as many as there are, and more)", PromiseEdgesTest::settleAll);
        Edges.test("6: NONE if n is below 0", () -> {
            for (int n : new int[] {-1, -2, -400, LEAST}) {
                due("settle(" + n + ")", Edges.inState(Edges.IS_READING).settle(n), NONE);
                Edges.doesNothing("settle(" + n + ")", in(Edges.IS_READING), x -> x.settle(n));
            }
        });
        Edges.test("6: how many were (in an empty air)", () -> {
            due("settle(0)", new BallotHouse(1).settle(0), 0);
            due("settle(1)", new BallotHouse(1).settle(1), 0);
            due("settle(MOST)", new BallotHouse(1).settle(MOST), 0);
        });
        Edges.test("6: all that can be delivered (what is for a SILENT VOTER can't)", PromiseEdgesTest::settlePastTheSilent);
        Edges.test("6: (nothing can be delivered)", PromiseEdgesTest::settleAllSilent);
        Edges.test("6: From the first on", PromiseEdgesTest::settleFromTheFirst);
        Edges.test("6: again from the first on behind each", PromiseEdgesTest::settleAgainFromTheFirst);
        Edges.test("6: what is sent meanwhile is delivered too", PromiseEdgesTest::settleWhatIsSent);
        Edges.test("6: n times one is once n", PromiseEdgesTest::settleInSteps);
        Edges.test("6: all of 400", PromiseEdgesTest::settleFullAir);
    }

    private static void settleOnce() {
        Edges.alike("settle(1)", in(Edges.IS_READING), x -> x.settle(1), x -> x.deliver(0));
        due("settle(1)", Edges.inState(Edges.IS_READING).settle(1), 1);
    }

    // From MADE to ACTIVE there are 15: NEW, 3 READS, 3 ANSWERS, 3 VOTES, 3 ANSWERS, COMPLETE, ACTIVE.
    private static void settleAll() {
        due("settle(14)", Edges.inState(Edges.IS_MADE).settle(14), 14);
        due("settle(15)", Edges.inState(Edges.IS_MADE).settle(15), 15);
        due("settle(16)", Edges.inState(Edges.IS_MADE).settle(16), 15);
        due("settle(MOST)", Edges.inState(Edges.IS_MADE).settle(MOST), 15);
        BallotHouse x = Edges.inState(Edges.IS_MADE);
        x.settle(14);
        due("about(3)", x.about(3), 1);
        due("settle(1)", x.settle(1), 1);
        due("about(3)", x.about(3), 0);
    }

    private static void settlePastTheSilent() {
        BallotHouse x = withSilent(Edges.IS_READING, 0);
        due("settle(MOST)", x.settle(MOST), 2 + 2 + 2 + 2 + 1 + 1);
        due("of(2, 0)", x.of(2, 0), Edges.IS_ACTIVE);
        due("about(3)", x.about(3), 2);
        Edges.letter(x, 0, Edges.READ, 2, 0, NONE, 0);
        Edges.letter(x, 1, Edges.VOTE, 2, 0, 0, 0);
        due("promise(0)", x.promise(0), 1);
    }

    private static void settleAllSilent() {
        Supplier<BallotHouse> house = () -> {
            BallotHouse x = Edges.inState(Edges.IS_READING);
            for (int voter = 0; voter < 3; voter++) {
                x.silent(voter, true);
            }
            return x;
        };
        due("settle(MOST)", house.get().settle(MOST), 0);
        Edges.doesNothing("settle(MOST)", house, x -> x.settle(MOST));
    }

    private static void settleFromTheFirst() {
        BallotHouse x = Edges.inState(Edges.IS_READING);
        x.settle(2);
        due("promise(0)", x.promise(0), 2);
        due("promise(1)", x.promise(1), 2);
        due("promise(2)", x.promise(2), 1);
        Edges.letter(x, 0, Edges.READ, 2, 2, NONE, 0);
    }

    // All READS go ahead of the first answer, since it lies behind them.
    private static void settleAgainFromTheFirst() {
        BallotHouse x = Edges.inState(Edges.IS_READING);
        x.settle(3);
        due("of(2, 5)", x.of(2, 5), 0);
        Edges.letter(x, 0, Edges.READ_ANSWER, 2, 0, NONE, 1);
        x.settle(1);
        due("of(2, 5)", x.of(2, 5), 1);
        // With voter 0 silent, the first that can be delivered is looked for anew each time.
        BallotHouse y = withSilent(Edges.IS_READING, 0);
        y.settle(2);
        Edges.letter(y, 1, Edges.READ_ANSWER, 2, 1, NONE, 1);
        Edges.letter(y, 2, Edges.READ_ANSWER, 2, 2, NONE, 1);
        y.settle(1);
        due("of(2, 5)", y.of(2, 5), 2);
        due("about(3)", y.about(3), 2);
    }

    private static void settleWhatIsSent() {
        BallotHouse x = new BallotHouse(1);
        x.ballot(1, 1, 1);
        due("about(3)", x.about(3), 1);
        due("settle(3): NEW, COMPLETE, ACTIVE", x.settle(3), 3);
        due("of(1, 0)", x.of(1, 0), Edges.IS_ACTIVE);
    }

    private static void settleInSteps() {
        for (int silent = 0; silent < 3; silent++) {
            int voter = silent;
            Edges.alike("settle(7)", () -> withSilent(Edges.IS_MADE, voter), x -> x.settle(7), x -> {
                for (int step = 0; step < 7; step++) {
                    x.settle(1);
                }
            });
        }
    }

    private static void settleFullAir() {
        BallotHouse x = Edges.crowd(400);
        due("settle(MOST): 400 VOTES, 400 ANSWERS", x.settle(MOST), 800);
        due("about(3)", x.about(3), 0);
        due("about(4)", x.about(4), 0);
        due("of(1, 8)", x.of(1, 8), 255);
    }

    // ---- 7

    private static void lose() {
        Edges.test("7: What lies at k (the first, one between, the last) is lost: true", PromiseEdgesTest::loseAnywhere);
        Edges.test("7: false if there is none such", PromiseEdgesTest::loseNothing);
        Edges.test("7: is lost, though it is for a SILENT VOTER", PromiseEdgesTest::loseOfSilent);
        Edges.test("7: is lost: it never comes", PromiseEdgesTest::lostNeverComes);
        Edges.test("7: is lost, but not because there were 400", PromiseEdgesTest::loseOf400);
    }

    private static void loseAnywhere() {
        for (int k = 0; k < 3; k++) {
            BallotHouse x = Edges.inState(Edges.IS_READING);
            due("lose(" + k + ")", x.lose(k), true);
            due("about(3)", x.about(3), 2);
            Edges.letter(x, 0, Edges.READ, 2, k == 0 ? 1 : 0, NONE, 0);
            Edges.letter(x, 1, Edges.READ, 2, k == 2 ? 1 : 2, NONE, 0);
            due("air(2, 0)", x.air(2, 0), NONE);
        }
    }

    private static void loseNothing() {
        int[] nowhere = {-1, 3, 4, 399, 400, 401, -32, -400, LEAST, MOST};
        BallotHouse x = Edges.inState(Edges.IS_READING);
        for (int k : nowhere) {
            due("lose(" + k + ")", x.lose(k), false);
        }
        Edges.doesNothing("lose", in(Edges.IS_READING), y -> {
            for (int k : nowhere) {
                y.lose(k);
            }
        });
        due("lose(0) in an empty air", new BallotHouse(1).lose(0), false);
        due("lose(400) in a full air", Edges.crowd(400).lose(400), false);
    }

    private static void loseOfSilent() {
        BallotHouse x = withSilent(Edges.IS_READING, 1);
        due("lose(1)", x.lose(1), true);
        due("about(3)", x.about(3), 2);
        Edges.letter(x, 1, Edges.READ, 2, 2, NONE, 0);
    }

    private static void lostNeverComes() {
        BallotHouse x = Edges.inState(Edges.IS_READING);
        x.lose(1);
        x.settle(4);
        due("promise(1)", x.promise(1), 1);
        due("of(2, 5)", x.of(2, 5), 5);
    }

    private static void loseOf400() {
        BallotHouse x = Edges.crowd(400);
        due("lose(399)", x.lose(399), true);
        due("about(3)", x.about(3), 399);
        due("about(4)", x.about(4), 0);
        due("lose(399)", x.lose(399), false);
        due("ballot(1, 1, 1)", x.ballot(1, 1, 1), 2);
        Edges.letter(x, 399, Edges.NEW, 2, NONE, NONE, 0);
    }

    // ---- 8

    private static void twice() {
        Edges.test("8: lies there once more, behind all: true", PromiseEdgesTest::twiceAnywhere);
        Edges.test("8: once more: each kind with all that it has", PromiseEdgesTest::twiceEachKind);
        Edges.test("8: once more: with what it had when it was sent", PromiseEdgesTest::twiceWithItsVotes);
        Edges.test("8: lies there once more, though it is for a SILENT VOTER", PromiseEdgesTest::twiceOfSilent);
        Edges.test("8: false, doing nothing: there is none such", PromiseEdgesTest::twiceNothing);
        Edges.test("8: false, doing nothing: or 400", PromiseEdgesTest::twiceAt400);
        Edges.test("8: or 400 (at 399 it is true)", PromiseEdgesTest::twiceAt399);
    }

    private static void twiceAnywhere() {
        for (int k = 0; k < 3; k++) {
            BallotHouse x = Edges.inState(Edges.IS_READING);
            due("twice(" + k + ")", x.twice(k), true);
            due("about(3)", x.about(3), 4);
            for (int voter = 0; voter < 3; voter++) {
                Edges.letter(x, voter, Edges.READ, 2, voter, NONE, 0);
            }
            Edges.letter(x, 3, Edges.READ, 2, k, NONE, 0);
        }
    }

    // Whichever of the two is lost, the other does the same.
    private static void twiceEachKind() {
        int[] deliveries = {0, 1, 4, 6, 10, 13, 14};
        for (int i = 0; i < deliveries.length; i++) {
            int steps = deliveries[i];
            Supplier<BallotHouse> house = () -> {
                BallotHouse x = Edges.inState(Edges.IS_MADE);
                x.settle(steps);
                return x;
            };
            BallotHouse x = house.get();
            int size = x.about(3);
            due("twice", x.twice(size - 1), true);
            for (int what = 0; what <= 4; what++) {
                due("air(.., " + what + ")", x.air(size, what), x.air(size - 1, what));
            }
            Edges.doesNothing("twice and lose", house, y -> {
                y.twice(size - 1);
                y.lose(size - 1);
            });
        }
    }

    private static void twiceWithItsVotes() {
        BallotHouse x = Edges.active(1, 1, 1);
        x.ballot(1, 1, 1);
        x.settle(2);
        x.twice(0);
        x.deliver(0);
        x.deliver(1);
        x.deliver(1);
        x.propose(2, 5, 55);
        x.deliver(1);
        due("vote(0, 5)", x.vote(0, 5), 2);
        due("twice(0)", x.twice(0), true);
        Edges.letter(x, 2, Edges.READ_ANSWER, 2, 0, NONE, 0);
    }

    private static void twiceOfSilent() {
        BallotHouse x = withSilent(Edges.IS_READING, 1);
        due("twice(1)", x.twice(1), true);
        Edges.letter(x, 3, Edges.READ, 2, 1, NONE, 0);
        due("deliver(3)", x.deliver(3), false);
    }

    private static void twiceNothing() {
        int[] nowhere = {-1, 3, 4, 399, 400, 401, -32, -400, LEAST, MOST};
        BallotHouse x = Edges.inState(Edges.IS_READING);
        for (int k : nowhere) {
            due("twice(" + k + ")", x.twice(k), false);
        }
        Edges.doesNothing("twice", in(Edges.IS_READING), y -> {
            for (int k : nowhere) {
                y.twice(k);
            }
        });
        due("twice(0) in an empty air", new BallotHouse(1).twice(0), false);
    }

    private static void twiceAt400() {
        for (int k : new int[] {0, 200, 399, 400, -1}) {
            due("twice(" + k + ")", Edges.crowd(400).twice(k), false);
        }
        Edges.doesNothing("twice", () -> Edges.crowd(400), x -> {
            x.twice(0);
            x.twice(399);
        });
    }

    private static void twiceAt399() {
        BallotHouse x = Edges.crowd(399);
        due("twice(398)", x.twice(398), true);
        due("about(3)", x.about(3), 400);
        due("about(4)", x.about(4), 0);
        for (int what = 0; what <= 4; what++) {
            due("air(399, " + what + ")", x.air(399, what), x.air(398, what));
        }
        due("twice(398)", x.twice(398), false);
        x.lose(0);
        due("twice(398) with room again", x.twice(398), true);
    }

    // ---- 9

    private static void silent() {
        Edges.test("9: A VOTER is SILENT, or not: true", PromiseEdgesTest::silentOrNot);
        Edges.test("9: is SILENT already, or is not already: true", PromiseEdgesTest::silentAlready);
        Edges.test("9: one VOTER alone", PromiseEdgesTest::silentAlone);
        Edges.test("9: false if there is none such", PromiseEdgesTest::silentWithoutVoter);
    }

    private static void silentOrNot() {
        for (int voter = 0; voter < 3; voter++) {
            BallotHouse x = Edges.inState(Edges.IS_READING);
            due("silent(" + voter + ", true)", x.silent(voter, true), true);
            due("deliver(" + voter + ")", x.deliver(voter), false);
            due("silent(" + voter + ", false)", x.silent(voter, false), true);
            due("deliver(" + voter + ")", x.deliver(voter), true);
        }
    }

    private static void silentAlready() {
        BallotHouse x = Edges.inState(Edges.IS_READING);
        due("silent(1, false)", x.silent(1, false), true);
        due("silent(1, true)", x.silent(1, true), true);
        due("silent(1, true)", x.silent(1, true), true);
        due("deliver(1)", x.deliver(1), false);
        due("silent(1, false)", x.silent(1, false), true);
        due("silent(1, false)", x.silent(1, false), true);
        due("deliver(1)", x.deliver(1), true);
    }

    private static void silentAlone() {
        BallotHouse x = Edges.inState(Edges.IS_READING);
        x.silent(0, true);
        x.silent(1, true);
        x.silent(0, false);
        due("deliver(1): SILENT still", x.deliver(1), false);
        due("deliver(2): never was", x.deliver(2), true);
        due("deliver(0): no more", x.deliver(0), true);
    }

    private static void silentWithoutVoter() {
        BallotHouse x = Edges.inState(Edges.IS_READING);
        for (int voter : Edges.NO_VOTER_OF_THREE) {
            due("silent(" + voter + ", true)", x.silent(voter, true), false);
            due("silent(" + voter + ", false)", x.silent(voter, false), false);
        }
        for (int voter : Edges.NO_VOTER_OF_THREE) {
            Edges.doesNothing("silent(" + voter + ", true)", in(Edges.IS_READING), y -> y.silent(voter, true));
            Edges.doesNothing("silent(" + voter + ", false)", () -> withSilent(Edges.IS_READING, 1), y -> y.silent(voter, false));
        }
    }

    // ---- 10 to 12

    private static void promise() {
        Edges.test("10: The PROMISE of a VOTER (the first, the last)", PromiseEdgesTest::promiseOfEach);
        Edges.test("10: NONE if there is none such", () -> {
            BallotHouse x = Edges.inState(Edges.IS_ACTIVE);
            for (int voter : Edges.NO_VOTER_OF_THREE) {
                due("promise(" + voter + ")", x.promise(voter), NONE);
            }
        });
        Edges.test("10: asking changes nothing", () -> asking(x -> {
            x.promise(0);
            x.promise(3);
        }));
    }

    private static void asking(Consumer<BallotHouse> questions) {
        Edges.doesNothing("asking", in(Edges.IS_MOVING), questions);
    }

    private static void promiseOfEach() {
        BallotHouse x = Edges.active(7, 4, 4);
        x.propose(1, 0, 5);
        x.lose(3);
        x.settle(100);
        for (int voter = 0; voter < 7; voter++) {
            due("promise(" + voter + ")", x.promise(voter), voter == 3 ? 0 : 1);
        }
    }

    private static void vote() {
        Edges.test("11: The ballot of a VOTER's VOTE in a PLACE", PromiseEdgesTest::voteOfEach);
        Edges.test("11: (0: none)", PromiseEdgesTest::voteIsNone);
        Edges.test("11: NONE if there is none such (VOTER)", () -> {
            BallotHouse x = Edges.inState(Edges.IS_ACTIVE);
            for (int voter : Edges.NO_VOTER_OF_THREE) {
                due("vote(" + voter + ", 0)", x.vote(voter, 0), NONE);
            }
        });
        Edges.test("11: NONE if there is none such (PLACE)", () -> {
            BallotHouse x = Edges.inState(Edges.IS_ACTIVE);
            for (int place : Edges.NO_PLACE) {
                due("vote(0, " + place + ")", x.vote(0, place), NONE);
            }
        });
        Edges.test("11: asking changes nothing", () -> asking(x -> {
            x.vote(0, 0);
            x.vote(3, 8);
        }));
    }

    // Each of seven voters votes in one place of its own and in place 7.
    private static BallotHouse ownPlaces() {
        BallotHouse x = Edges.active(7, 7, 1);
        for (int place = 0; place < 7; place++) {
            x.propose(1, place, 100 + place);
            for (int voter = 0; voter < 7; voter++) {
                if (voter != place) {
                    x.lose(voter < place ? place : place + 1);
                }
            }
        }
        x.propose(1, 7, 107);
        x.settle(100);
        return x;
    }

    private static void voteOfEach() {
        BallotHouse x = ownPlaces();
        for (int voter = 0; voter < 7; voter++) {
            for (int place = 0; place < 8; place++) {
                boolean voted = place == voter || place == 7;
                due("vote(" + voter + ", " + place + ")", x.vote(voter, place), voted ? 1 : 0);
            }
        }
    }

    private static void voteIsNone() {
        BallotHouse x = Edges.inState(Edges.IS_ACTIVE);
        for (int voter = 0; voter < 3; voter++) {
            due("vote(" + voter + ", 0)", x.vote(voter, 0), 2);
            for (int place = 1; place < 8; place++) {
                due("vote(" + voter + ", " + place + ")", x.vote(voter, place), 0);
            }
        }
    }

    private static void value() {
        Edges.test("12: The value of a VOTER's VOTE in a PLACE", PromiseEdgesTest::valueOfEach);
        Edges.test("12: 0 if there is none such (no VOTE)", () -> {
            BallotHouse x = Edges.inState(Edges.IS_ACTIVE);
            x.propose(2, 3, 33);
            due("value(0, 3), its VOTE being on its way", x.value(0, 3), 0);
            due("value(0, 4)", x.value(0, 4), 0);
        });
        Edges.test("12: 0 if there is none such (VOTER)", () -> {
            BallotHouse x = Edges.inState(Edges.IS_ACTIVE);
            for (int voter : Edges.NO_VOTER_OF_THREE) {
                due("value(" + voter + ", 0)", x.value(voter, 0), 0);
            }
        });
        Edges.test("12: 0 if there is none such (PLACE)", () -> {
            BallotHouse x = Edges.inState(Edges.IS_ACTIVE);
            for (int place : Edges.NO_PLACE) {
                due("value(0, " + place + ")", x.value(0, place), 0);
            }
        });
        Edges.test("12: asking changes nothing", () -> asking(x -> {
            x.value(0, 0);
            x.value(3, 8);
        }));
    }

    private static void valueOfEach() {
        BallotHouse x = ownPlaces();
        for (int voter = 0; voter < 7; voter++) {
            for (int place = 0; place < 8; place++) {
                boolean voted = place == voter || place == 7;
                due("value(" + voter + ", " + place + ")", x.value(voter, place), voted ? 100 + place : 0);
            }
        }
    }

    // ---- 13

    private static void of() {
        Edges.test("13: what 0: its STATE", () -> {
            for (int state = 0; state <= 4; state++) {
                due("of(2, 0)", Edges.inState(state).of(2, 0), state);
            }
        });
        Edges.test("13: 1: MEMBERS (bits), 2: R, 3: W", PromiseEdgesTest::ofAsMade);
        Edges.test("13: 4: BEHIND", () -> {
            due("of(1, 4)", Edges.inState(Edges.IS_ACTIVE).of(1, 4), 0);
            due("of(2, 4)", Edges.inState(Edges.IS_ACTIVE).of(2, 4), 1);
        });
        Edges.test("13: 5: VOTERS whose READ ANSWERS count (bits)", PromiseEdgesTest::ofReadAnswers);
        Edges.test("13: 6: PLACES in which a value was FOUND (bits)", PromiseEdgesTest::ofFound);
        Edges.test("13: 7: PLACES in which one was proposed (bits)", PromiseEdgesTest::ofProposed);
        Edges.test("13: 8: PLACES that it KNOWS as chosen (bits)", PromiseEdgesTest::ofKnown);
        Edges.test("13: NONE if there is none such (BALLOT)", () -> {
            BallotHouse x = Edges.inState(Edges.IS_ACTIVE);
            for (int ballot : Edges.NO_BALLOT_OF_TWO) {
                for (int what = 0; what <= 8; what++) {
                    due("of(" + ballot + ", " + what + ")", x.of(ballot, what), NONE);
                }
            }
            due("of(1, 0) with none made", new BallotHouse(1).of(1, 0), NONE);
        });
        Edges.test("13: NONE if there is none such (what)", () -> {
            BallotHouse x = Edges.inState(Edges.IS_ACTIVE);
            for (int what : new int[] {-1, 9, 10, 32, 256, LEAST, MOST}) {
                due("of(1, " + what + ")", x.of(1, what), NONE);
                due("of(2, " + what + ")", x.of(2, what), NONE);
            }
        });
        Edges.test("13: asking changes nothing", () -> asking(x -> {
            for (int what = -1; what <= 9; what++) {
                x.of(2, what);
                x.of(3, what);
            }
        }));
    }

    private static void ofAsMade() {
        BallotHouse x = new BallotHouse(7);
        x.ballot(127, 3, 5);
        x.ballot(64, 1, 1);
        x.ballot(127, 7, 1);
        int[][] want = {{127, 3, 5}, {64, 1, 1}, {127, 7, 1}};
        for (int i = 0; i < 3; i++) {
            for (int what = 1; what <= 3; what++) {
                due("of(" + (i + 1) + ", " + what + ")", x.of(i + 1, what), want[i][what - 1]);
            }
        }
    }

    private static void ofReadAnswers() {
        BallotHouse x = Edges.active(7, 7, 1);
        x.ballot(1, 1, 1);
        x.settle(1 + 7);
        for (int answers = 0; answers <= 7; answers++) {
            due("of(2, 5)", x.of(2, 5), (1 << answers) - 1);
            x.settle(1);
        }
        due("of(1, 5): the first reads nobody", x.of(1, 5), 0);
    }

    private static void ofFound() {
        for (int place = 0; place < 8; place++) {
            BallotHouse x = Edges.active(1, 1, 1);
            x.propose(1, place, 5);
            x.settle(2);
            x.ballot(1, 1, 1);
            x.settle(2);
            due("of(2, 6) while nobody answered", x.of(2, 6), 0);
            x.settle(1);
            due("of(2, 6)", x.of(2, 6), 1 << place);
            due("of(1, 6): proposed is not FOUND", x.of(1, 6), 0);
        }
    }

    private static void ofProposed() {
        BallotHouse x = Edges.inState(Edges.IS_ACTIVE);
        due("of(2, 7): FOUND is not proposed", x.of(2, 7), 0);
        int bits = 0;
        for (int place = 7; place >= 1; place--) {
            x.propose(2, place, 5);
            bits += 1 << place;
            due("of(2, 7)", x.of(2, 7), bits);
        }
        due("of(1, 7)", x.of(1, 7), 1);
    }

    private static void ofKnown() {
        BallotHouse x = Edges.active(1, 1, 1);
        int bits = 0;
        for (int place = 7; place >= 0; place--) {
            x.propose(1, place, 5);
            x.deliver(0);
            due("of(1, 8) before the answer", x.of(1, 8), bits);
            x.deliver(0);
            bits += 1 << place;
            due("of(1, 8)", x.of(1, 8), bits);
        }
    }

    // ---- 14, 15

    private static void answered() {
        Edges.test("14: MEMBERS whose VOTE ANSWER a LEADER has for a PLACE, as bits", PromiseEdgesTest::answeredBits);
        Edges.test("14: (none has answered)", PromiseEdgesTest::answeredByNobody);
        Edges.test("14: (a second answer of one)", PromiseEdgesTest::answeredTwice);
        Edges.test("14: NONE if there is none such (BALLOT)", () -> {
            BallotHouse x = Edges.inState(Edges.IS_ACTIVE);
            for (int ballot : Edges.NO_BALLOT_OF_TWO) {
                due("answered(" + ballot + ", 0)", x.answered(ballot, 0), NONE);
            }
            due("answered(1, 0) with none made", new BallotHouse(1).answered(1, 0), NONE);
        });
        Edges.test("14: NONE if there is none such (PLACE)", () -> {
            BallotHouse x = Edges.inState(Edges.IS_ACTIVE);
            for (int place : Edges.NO_PLACE) {
                due("answered(2, " + place + ")", x.answered(2, place), NONE);
            }
        });
        Edges.test("14: asking changes nothing", () -> asking(x -> {
            x.answered(2, 0);
            x.answered(3, 8);
        }));
    }

    private static void answeredBits() {
        for (int place = 0; place < 8; place++) {
            BallotHouse x = Edges.active(7, 4, 4);
            x.propose(1, place, 5);
            x.settle(7);
            int bits = 0;
            for (int voter = 6; voter >= 0; voter--) {
                x.deliver(voter);
                bits += 1 << voter;
                due("answered(1, " + place + ")", x.answered(1, place), bits);
            }
            due("another place", x.answered(1, (place + 1) % 8), 0);
        }
    }

    private static void answeredByNobody() {
        BallotHouse x = Edges.inState(Edges.IS_MOVING);
        for (int place = 0; place < 8; place++) {
            due("answered(2, " + place + ")", x.answered(2, place), 0);
        }
        x.deliver(1);
        due("answered(2, 0), its answer being on its way", x.answered(2, 0), 0);
    }

    private static void answeredTwice() {
        BallotHouse x = Edges.inState(Edges.IS_MOVING);
        x.deliver(1);
        x.twice(3);
        x.deliver(3);
        x.deliver(3);
        due("answered(2, 0)", x.answered(2, 0), 1);
        due("of(2, 8): two answers of one are no W of two", x.of(2, 8), 0);
        due("of(2, 0)", x.of(2, 0), Edges.IS_MOVING);
    }

    private static void said() {
        Edges.test("15: What a BALLOT FOUND", () -> {
            due("said(2, 0)", Edges.inState(Edges.IS_MOVING).said(2, 0), 50);
            due("said(2, 0)", Edges.inState(Edges.IS_ACTIVE).said(2, 0), 50);
        });
        Edges.test("15: or proposed", () -> {
            BallotHouse x = Edges.inState(Edges.IS_ACTIVE);
            x.propose(2, 7, -7);
            due("said(2, 7)", x.said(2, 7), -7);
            due("said(1, 7): of another BALLOT", x.said(1, 7), 0);
        });
        Edges.test("15: 0 if there is none such (nothing FOUND or proposed)", () -> {
            BallotHouse x = Edges.inState(Edges.IS_READING);
            for (int place = 0; place < 8; place++) {
                due("said(2, " + place + ")", x.said(2, place), 0);
                due("said(1, " + place + ")", x.said(1, place), place == 0 ? 50 : 0);
            }
        });
        Edges.test("15: 0 if there is none such (a refused proposal)", () -> {
            BallotHouse x = Edges.inState(Edges.IS_ASKING);
            x.propose(2, 1, 5);
            due("said(2, 1)", x.said(2, 1), 0);
        });
        Edges.test("15: 0 if there is none such (BALLOT)", () -> {
            BallotHouse x = Edges.inState(Edges.IS_ACTIVE);
            for (int ballot : Edges.NO_BALLOT_OF_TWO) {
                due("said(" + ballot + ", 0)", x.said(ballot, 0), 0);
            }
            due("said(1, 0) with none made", new BallotHouse(1).said(1, 0), 0);
        });
        Edges.test("15: 0 if there is none such (PLACE)", () -> {
            BallotHouse x = Edges.inState(Edges.IS_ACTIVE);
            for (int place : Edges.NO_PLACE) {
                due("said(2, " + place + ")", x.said(2, place), 0);
            }
        });
        Edges.test("15: asking changes nothing", () -> asking(x -> {
            x.said(2, 0);
            x.said(3, 8);
        }));
    }

    // ---- 16 to 18

    private static void chosen() {
        Edges.test("16: The least BALLOT by which a value IS CHOSEN", PromiseEdgesTest::chosenIsTheLeast);
        Edges.test("16: NONE if there is none such (nothing IS CHOSEN)", () -> {
            BallotHouse x = Edges.active(3, 2, 2);
            x.propose(1, 0, 5);
            x.deliver(0);
            for (int place = 0; place < 8; place++) {
                due("chosen(" + place + ")", x.chosen(place), NONE);
            }
        });
        Edges.test("16: NONE if there is none such (PLACE)", () -> {
            BallotHouse x = Edges.inState(Edges.IS_ACTIVE);
            for (int place : Edges.NO_PLACE) {
                due("chosen(" + place + ")", x.chosen(place), NONE);
            }
        });
        Edges.test("16: asking changes nothing", () -> asking(x -> {
            x.chosen(0);
            x.chosen(8);
        }));
    }

    // By 2 and 3 it is chosen, by 1 it was only voted for.
    private static void chosenIsTheLeast() {
        BallotHouse x = Edges.active(3, 2, 2);
        x.propose(1, 6, 66);
        x.deliver(0);
        Edges.loseAll(x);
        for (int number = 2; number <= 3; number++) {
            x.ballot(7, 2, 2);
            x.settle(100);
            due("vote(0, 6)", x.vote(0, 6), number);
            due("chosen(6)", x.chosen(6), 2);
        }
    }

    private static void chosenValue() {
        Edges.test("17: The value that IS CHOSEN in a PLACE (by that one)", () -> {
            BallotHouse x = Edges.active(1, 1, 1);
            for (int place = 0; place < 8; place++) {
                x.propose(1, place, Long.MAX_VALUE - place);
                x.settle(2);
                due("chosenValue(" + place + ")", x.chosenValue(place), Long.MAX_VALUE - place);
            }
        });
        Edges.test("17: 0 if there is none such (nothing IS CHOSEN)", () -> {
            BallotHouse x = Edges.active(3, 2, 2);
            x.propose(1, 0, 5);
            x.deliver(0);
            for (int place = 0; place < 8; place++) {
                due("chosenValue(" + place + ")", x.chosenValue(place), 0);
            }
        });
        Edges.test("17: 0 if there is none such (PLACE)", () -> {
            BallotHouse x = Edges.inState(Edges.IS_ACTIVE);
            for (int place : Edges.NO_PLACE) {
                due("chosenValue(" + place + ")", x.chosenValue(place), 0);
            }
        });
        Edges.test("17: asking changes nothing", () -> asking(x -> {
            x.chosenValue(0);
            x.chosenValue(8);
        }));
    }

    private static void isOne() {
        Edges.test("18: all values that are chosen in a PLACE are the same", () -> {
            BallotHouse x = Edges.inState(Edges.IS_ACTIVE);
            due("chosen(0), by both", x.chosen(0), 1);
            due("isOne(0)", x.isOne(0), true);
        });
        Edges.test("18: that are chosen (what is only voted for is not)", PromiseEdgesTest::otherVotesAreNotChosen);
        Edges.test("18: that are chosen (what is FOUND so far is not)", PromiseEdgesTest::foundSoFarIsNotChosen);
        Edges.test("18: (true if none is)", () -> {
            BallotHouse x = Edges.active(3, 2, 2);
            x.propose(1, 0, 5);
            x.deliver(0);
            for (int place = 0; place < 8; place++) {
                due("isOne(" + place + ")", x.isOne(place), true);
            }
        });
        Edges.test("18: (true if .. there is no such PLACE)", () -> {
            BallotHouse x = Edges.inState(Edges.IS_ACTIVE);
            for (int place : Edges.NO_PLACE) {
                due("isOne(" + place + ")", x.isOne(place), true);
            }
        });
        Edges.test("18: asking changes nothing", () -> asking(x -> {
            x.isOne(0);
            x.isOne(8);
        }));
    }

    // Voter 0 voted 90 by ballot 1, not chosen; 10 is chosen by ballot 2, that did not find the 90.
    private static void otherVotesAreNotChosen() {
        BallotHouse x = Edges.active(3, 2, 2);
        x.propose(1, 0, 90);
        x.deliver(0);
        Edges.loseAll(x);
        x.ballot(6, 1, 2);
        x.deliver(0);
        x.lose(0);
        x.settle(100);
        due("propose(2, 0, 10)", x.propose(2, 0, 10), true);
        x.settle(100);
        due("value(0, 0)", x.value(0, 0), 90);
        due("chosenValue(0)", x.chosenValue(0), 10);
        due("isOne(0)", x.isOne(0), true);
    }

    // As before; then ballot 3 is READING, and only the answer of voter 0, with its 90, has come.
    private static void foundSoFarIsNotChosen() {
        BallotHouse x = Edges.active(3, 2, 2);
        x.propose(1, 0, 90);
        x.deliver(0);
        Edges.loseAll(x);
        x.ballot(7, 2, 2);
        x.deliver(0);
        x.lose(0);
        x.settle(100);
        x.propose(2, 0, 10);
        x.lose(0);
        x.settle(100);
        due("chosenValue(0)", x.chosenValue(0), 10);
        x.ballot(7, 2, 2);
        x.deliver(0);
        x.deliver(0);
        x.deliver(2);
        due("said(3, 0)", x.said(3, 0), 90);
        due("isOne(0)", x.isOne(0), true);
        due("chosenValue(0)", x.chosenValue(0), 10);
    }

    // ---- 19

    private static void air() {
        Edges.test("19: 1 NEW", () -> firstLetter(0, Edges.NEW, 2, NONE, NONE, 0));
        Edges.test("19: 2 READ", () -> firstLetter(1, Edges.READ, 2, 0, NONE, 0));
        Edges.test("19: 3 READ ANSWER", () -> firstLetter(4, Edges.READ_ANSWER, 2, 0, NONE, 1));
        Edges.test("19: 4 VOTE", () -> firstLetter(7, Edges.VOTE, 2, 0, 0, 0));
        Edges.test("19: 5 VOTE ANSWER", () -> firstLetter(10, Edges.VOTE_ANSWER, 2, 0, 0, 0));
        Edges.test("19: 6 COMPLETE", () -> firstLetter(13, Edges.COMPLETE, 2, NONE, NONE, 0));
        Edges.test("19: 7 ACTIVE", () -> firstLetter(14, Edges.ACTIVE, 2, NONE, NONE, 0));
        Edges.test("19: 3: the PLACE (the first, the last)", PromiseEdgesTest::placeOfLetter);
        Edges.test("19: 4: PLACES in which it has VOTES (of 3, bits)", PromiseEdgesTest::votesOfLetter);
        Edges.test("19: NONE if there is none such (k)", PromiseEdgesTest::noLetter);
        Edges.test("19: NONE if there is none such (what)", () -> {
            for (int deliveries : new int[] {0, 1, 4, 7, 10, 13, 14}) {
                BallotHouse x = Edges.inState(Edges.IS_MADE);
                x.settle(deliveries);
                for (int what : new int[] {-1, 5, 6, 7, 32, 256, LEAST, MOST}) {
                    due("air(0, " + what + ")", x.air(0, what), NONE);
                }
            }
        });
        Edges.test("19: at k (399, in a full air)", () -> {
            BallotHouse x = Edges.crowd(399);
            x.ballot(1, 1, 1);
            Edges.letter(x, 399, Edges.NEW, 2, NONE, NONE, 0);
            due("air(400, 0)", x.air(400, 0), NONE);
        });
        Edges.test("19: asking changes nothing", () -> asking(x -> {
            for (int what = -1; what <= 5; what++) {
                x.air(0, what);
                x.air(4, what);
            }
        }));
    }

    private static void firstLetter(int deliveries, int... parts) {
        BallotHouse x = Edges.inState(Edges.IS_MADE);
        x.settle(deliveries);
        Edges.letter(x, 0, parts);
    }

    private static void placeOfLetter() {
        for (int place = 0; place < 8; place++) {
            BallotHouse x = Edges.active(7, 1, 7);
            x.propose(1, place, 5);
            Edges.letter(x, 6, Edges.VOTE, 1, 6, place, 0);
            x.deliver(6);
            Edges.letter(x, 6, Edges.VOTE_ANSWER, 1, 6, place, 0);
        }
    }

    private static void votesOfLetter() {
        BallotHouse x = Edges.active(1, 1, 1);
        for (int place = 0; place < 8; place++) {
            x.propose(1, place, 0);
        }
        x.settle(16);
        x.ballot(1, 1, 1);
        x.settle(2);
        due("air(0, 4): VOTES for 0, too", x.air(0, 4), 255);

        for (int place = 0; place < 8; place++) {
            BallotHouse y = Edges.active(1, 1, 1);
            y.propose(1, place, 5);
            y.settle(2);
            y.ballot(1, 1, 1);
            y.settle(2);
            due("air(0, 4)", y.air(0, 4), 1 << place);
        }
    }

    private static void noLetter() {
        BallotHouse x = Edges.inState(Edges.IS_READING);
        for (int k : new int[] {-1, 3, 4, 399, 400, 401, -32, -400, LEAST, MOST}) {
            for (int what = 0; what <= 4; what++) {
                due("air(" + k + ", " + what + ")", x.air(k, what), NONE);
            }
        }
        BallotHouse empty = new BallotHouse(1);
        for (int what = 0; what <= 4; what++) {
            due("air(0, " + what + ") in an empty air", empty.air(0, what), NONE);
        }
    }

    // ---- 20

    private static void about() {
        Edges.test("20: 0: VOTERS", () -> {
            for (int voters = 1; voters <= 7; voters++) {
                due("about(0)", new BallotHouse(voters).about(0), voters);
            }
        });
        Edges.test("20: 1: BALLOTS", () -> {
            BallotHouse x = new BallotHouse(1);
            for (int made = 0; made <= 25; made++) {
                due("about(1)", x.about(1), Math.min(made, 24));
                x.ballot(1, 1, 1);
            }
        });
        Edges.test("20: 2: COMPLETE", PromiseEdgesTest::aboutComplete);
        Edges.test("20: 3: what lies in THE AIR (0, 400)", () -> {
            due("about(3)", new BallotHouse(1).about(3), 0);
            due("about(3)", Edges.crowd(399).about(3), 399);
            BallotHouse x = Edges.crowd(400);
            x.again(1);
            due("about(3)", x.about(3), 400);
        });
        Edges.test("20: 4: lost because there were 400", PromiseEdgesTest::aboutLost);
        Edges.test("20: NONE for another what", () -> {
            BallotHouse x = Edges.inState(Edges.IS_ACTIVE);
            for (int what : new int[] {-1, 5, 6, 32, 256, LEAST, MOST}) {
                due("about(" + what + ")", x.about(what), NONE);
            }
        });
        Edges.test("20: asking changes nothing", () -> asking(x -> {
            for (int what = -1; what <= 5; what++) {
                x.about(what);
            }
        }));
    }

    private static void aboutComplete() {
        BallotHouse x = new BallotHouse(1);
        due("about(2)", x.about(2), 0);
        for (int number = 1; number <= 24; number++) {
            x.ballot(1, 1, 1);
            due("about(2)", x.about(2), number - 1);
            x.settle(100);
            due("about(2)", x.about(2), number);
        }
    }

    // Each way in which something is sent: NEW, READS, VOTES, and answers beyond their letter's room.
    private static void aboutLost() {
        BallotHouse x = Edges.crowd(400);
        due("about(4)", x.about(4), 0);
        x.twice(0);
        x.deliver(0);
        x.lose(0);
        x.twice(0);
        due("about(4)", x.about(4), 0);
        x.ballot(127, 4, 4);
        due("about(4): a NEW", x.about(4), 1);
        x.lose(0);
        x.again(2);
        due("about(4): a NEW that has room", x.about(4), 1);
        x.deliver(399);
        due("of(2, 0)", x.of(2, 0), Edges.IS_READING);
        due("about(4): six of seven READS", x.about(4), 7);
        x.again(2);
        due("about(4): seven READS", x.about(4), 14);
    }
}
