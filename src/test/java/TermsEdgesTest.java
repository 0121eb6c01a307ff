// Each sentence of "What it is" and "Terms" that names a boundary case has its own test here.
public final class TermsEdgesTest {
    private static final int NONE = Edges.NONE;
    private static final long[] VALUES = {
        Long.MIN_VALUE, Long.MAX_VALUE, -1, 1, 1L << 31, 1L << 32, -(1L << 31) - 1, 0xFFFFFFFFL};

    public static void main(String[] args) {
        calls();
        terms();
        ballots();
        chosen();
        making();
        readingSends();
        readingVoters();
        readingFinds();
        readingEnds();
        moving();
        movingVoters();
        movingEnds();
        asking();
        activeLeader();
        knowing();
        otherStates();
        air();
        silentVoters();
        Edges.finish();
    }

    private static void due(String call, long got, long want) {
        Edges.due(call, got, want);
    }

    private static void due(String call, boolean got, boolean want) {
        Edges.due(call, got, want);
    }

    // ---- What it is, the constants, and the terms

    private static void calls() {
        Edges.test("An object is used for at most 512 calls", TermsEdgesTest::theLastOf512Calls);
        Edges.test("NONE = -1", () -> due("NONE", BallotHouse.NONE, -1));
    }

    private static void theLastOf512Calls() {
        BallotHouse x = new BallotHouse(7);
        x.ballot(127, 4, 4);
        x.settle(3);
        for (int place = 0; place < 8; place++) {
            x.propose(1, place, place);
        }
        for (int call = 11; call <= 511; call++) {
            due("call " + call + ": again(1)", x.again(1), 56);
        }
        due("call 512: about(4)", x.about(4), 56 * 502 - 400);
    }

    private static void terms() {
        Edges.test("VOTERS 0 .. n - 1", TermsEdgesTest::votersBelowN);
        Edges.test("n 1 .. 7", TermsEdgesTest::oneToSevenVoters);
        Edges.test("PLACES 0 .. 7", TermsEdgesTest::eightPlaces);
        Edges.test("a PROMISE (.., 0 at first)", TermsEdgesTest::promiseAtFirst);
        Edges.test("a VOTE: a ballot's number (0: none)", TermsEdgesTest::voteAtFirst);
        Edges.test("and a value (a long, ..)", TermsEdgesTest::valuesAreLongs);
        Edges.test("and a value (.., 0 at first)", TermsEdgesTest::valueAtFirst);
    }

    private static void votersBelowN() {
        for (int n = 1; n <= 7; n++) {
            BallotHouse x = new BallotHouse(n);
            due("promise(n - 1)", x.promise(n - 1), 0);
            due("promise(n)", x.promise(n), NONE);
            due("promise(-1)", x.promise(-1), NONE);
            due("a ballot of voter n", x.ballot(1 << n, 1, 1), NONE);
            due("a ballot of voter n - 1", x.ballot(1 << (n - 1), 1, 1), 1);
        }
    }

    private static void oneToSevenVoters() {
        for (int n = 1; n <= 7; n++) {
            BallotHouse x = Edges.active(n, 1, n);
            x.propose(1, 0, 5);
            due("a VOTE to each of " + n, x.about(3), n);
            x.settle(2 * n);
            due("all of " + n + " answered", x.answered(1, 0), (1 << n) - 1);
        }
    }

    private static void eightPlaces() {
        BallotHouse x = Edges.active(1, 1, 1);
        for (int place = -1; place <= 8; place++) {
            boolean is = place >= 0 && place <= 7;
            due("propose(1, " + place + ", ..)", x.propose(1, place, 100 + place), is);
        }
        x.settle(16);
        for (int place = 0; place <= 7; place++) {
            due("value(0, " + place + ")", x.value(0, place), 100 + place);
            due("chosenValue(" + place + ")", x.chosenValue(place), 100 + place);
        }
        due("of(1, 7)", x.of(1, 7), 255);
        due("of(1, 8)", x.of(1, 8), 255);
    }

    private static void promiseAtFirst() {
        BallotHouse x = new BallotHouse(7);
        x.ballot(127, 4, 4);
        x.settle(3);
        for (int voter = 0; voter < 7; voter++) {
            due("promise(" + voter + ")", x.promise(voter), 0);
        }
    }

    private static void voteAtFirst() {
        BallotHouse x = Edges.active(7, 4, 4);
        x.propose(1, 0, 5);
        for (int voter = 0; voter < 7; voter++) {
            for (int place = 0; place < 8; place++) {
                due("vote(" + voter + ", " + place + ")", x.vote(voter, place), 0);
            }
        }
    }

    private static void valueAtFirst() {
        BallotHouse x = Edges.active(7, 4, 4);
        x.propose(1, 0, 5);
        for (int voter = 0; voter < 7; voter++) {
            for (int place = 0; place < 8; place++) {
                due("value(" + voter + ", " + place + ")", x.value(voter, place), 0);
            }
        }
    }

    private static void valuesAreLongs() {
        BallotHouse x = Edges.active(2, 1, 2);
        for (int place = 0; place < 8; place++) {
            x.propose(1, place, VALUES[place]);
        }
        x.settle(32);
        x.ballot(2, 1, 1);
        x.settle(100);
        for (int place = 0; place < 8; place++) {
            due("value(0, " + place + ")", x.value(0, place), VALUES[place]);
            due("value(1, " + place + ")", x.value(1, place), VALUES[place]);
            due("said(1, " + place + ")", x.said(1, place), VALUES[place]);
            due("said(2, " + place + ")", x.said(2, place), VALUES[place]);
            due("chosenValue(" + place + ")", x.chosenValue(place), VALUES[place]);
        }
    }

    private static void ballots() {
        Edges.test("BALLOTS are numbered from 1 on", TermsEdgesTest::ballotsFromOneOn);
        Edges.test("24 at most", TermsEdgesTest::twentyFourBallots);
        Edges.test("MEMBERS (some VOTERS, one or more)", TermsEdgesTest::oneMemberOrMore);
        Edges.test("R and W (1 .. as many as they are, R + W more than they are)", TermsEdgesTest::allQuorums);
        Edges.test("BEHIND: .. (0 if none was)", TermsEdgesTest::behindIsZero);
        Edges.test("BEHIND: the ballot that was COMPLETE when it was made", TermsEdgesTest::behindIsComplete);
        Edges.test("BEHIND: .. when it was made, not later", TermsEdgesTest::behindStays);
        Edges.test("COMPLETE is .. 0 at first", TermsEdgesTest::completeAtFirst);
    }

    private static void ballotsFromOneOn() {
        BallotHouse x = new BallotHouse(1);
        due("of(1, 0) with none made", x.of(1, 0), NONE);
        for (int number = 1; number <= 3; number++) {
            due("ballot(1, 1, 1)", x.ballot(1, 1, 1), number);
        }
        due("of(0, 0)", x.of(0, 0), NONE);
    }

    // The last is as good as any: it is promised, voted by, and chosen by.
    private static void twentyFourBallots() {
        BallotHouse x = new BallotHouse(1);
        for (int number = 1; number <= 24; number++) {
            due("ballot(1, 1, 1)", x.ballot(1, 1, 1), number);
            x.settle(100);
            due("of(" + number + ", 0)", x.of(number, 0), Edges.IS_ACTIVE);
        }
        due("the 25th", x.ballot(1, 1, 1), NONE);
        due("propose(24, 7, 77)", x.propose(24, 7, 77), true);
        x.settle(2);
        due("promise(0)", x.promise(0), 24);
        due("vote(0, 7)", x.vote(0, 7), 24);
        due("value(0, 7)", x.value(0, 7), 77);
        due("chosen(7)", x.chosen(7), 24);
        due("about(2)", x.about(2), 24);
    }

    private static void oneMemberOrMore() {
        for (int members = 0; members < 128; members++) {
            int many = Integer.bitCount(members);
            BallotHouse x = new BallotHouse(7);
            due("ballot(" + members + ", ..)", x.ballot(members, Math.max(1, many), 1), many == 0 ? NONE : 1);
        }
        due("no member, and no quorum", new BallotHouse(7).ballot(0, 0, 0), NONE);
        due("no member, and W 1", new BallotHouse(7).ballot(0, 0, 1), NONE);
    }

    private static void allQuorums() {
        for (int n = 1; n <= 7; n++) {
            int members = (1 << n) - 1;
            for (int r = -1; r <= n + 2; r++) {
                for (int w = -1; w <= n + 2; w++) {
                    boolean can = r >= 1 && r <= n && w >= 1 && w <= n && r + w > n;
                    String call = "ballot(" + members + ", " + r + ", " + w + ")";
                    due(call, new BallotHouse(7).ballot(members, r, w), can ? 1 : NONE);
                }
            }
        }
    }

    private static void behindIsZero() {
        BallotHouse x = new BallotHouse(1);
        x.ballot(1, 1, 1);
        x.ballot(1, 1, 1);
        due("of(1, 4)", x.of(1, 4), 0);
        due("of(2, 4)", x.of(2, 4), 0);
        x.deliver(0);
        x.ballot(1, 1, 1);
        due("of(3, 4) while 1 is only ASKING", x.of(3, 4), 0);
    }

    private static void behindIsComplete() {
        BallotHouse x = new BallotHouse(1);
        x.ballot(1, 1, 1);
        x.settle(2);
        x.ballot(1, 1, 1);
        due("of(2, 4), the ACTIVE of 1 being on its way", x.of(2, 4), 1);
        x.ballot(1, 1, 1);
        due("of(3, 4), the latest COMPLETE and not the one ahead", x.of(3, 4), 1);
    }

    private static void behindStays() {
        BallotHouse x = new BallotHouse(1);
        x.ballot(1, 1, 1);
        x.ballot(1, 1, 1);
        x.lose(1);
        x.settle(3);
        due("about(2)", x.about(2), 1);
        due("of(2, 4)", x.of(2, 4), 0);
        due("of(1, 4)", x.of(1, 4), 0);
    }

    private static void completeAtFirst() {
        BallotHouse x = new BallotHouse(1);
        due("about(2)", x.about(2), 0);
        x.ballot(1, 1, 1);
        x.settle(1);
        due("about(2) while ASKING", x.about(2), 0);
        x.settle(1);
        due("about(2) behind the COMPLETE", x.about(2), 1);
    }

    private static void chosen() {
        Edges.test("A value IS CHOSEN .. when, of its MEMBERS, W have .. voted there", TermsEdgesTest::chosenByW);
        Edges.test("W have ever voted there by it", TermsEdgesTest::chosenByAllThatEverVoted);
        Edges.test("W have ever voted there (one that votes so twice is one)", TermsEdgesTest::chosenThoughVotedTwice);
        Edges.test("IS CHOSEN: by votes of one PLACE", TermsEdgesTest::chosenPlaceByPlace);
        Edges.test("IS CHOSEN: by votes of one BALLOT", TermsEdgesTest::chosenBallotByBallot);
    }

    private static void chosenByW() {
        for (int n = 1; n <= 7; n++) {
            for (int w = 1; w <= n; w++) {
                BallotHouse x = Edges.active(n, n + 1 - w, w);
                x.propose(1, 3, 33);
                x.settle(w - 1);
                due("chosen(3) by " + (w - 1) + " of " + n, x.chosen(3), NONE);
                x.settle(1);
                due("chosen(3) by " + w + " of " + n, x.chosen(3), 1);
            }
        }
    }

    // Voter 0 votes by 1 and then by 2; only then voter 1 votes by 1: never do two votes by 1 stand at once.
    private static void chosenByAllThatEverVoted() {
        BallotHouse x = Edges.active(3, 2, 2);
        x.propose(1, 0, 5);
        x.deliver(0);
        x.lose(1);
        x.lose(1);
        x.silent(1, true);
        x.ballot(1, 1, 1);
        x.settle(100);
        due("vote(0, 0)", x.vote(0, 0), 2);
        due("chosen(0) by the second alone", x.chosen(0), 2);
        x.lose(1);
        x.silent(1, false);
        x.deliver(0);
        due("vote(1, 0)", x.vote(1, 0), 1);
        due("chosen(0) by the first", x.chosen(0), 1);
    }

    private static void chosenThoughVotedTwice() {
        BallotHouse x = Edges.active(3, 2, 2);
        x.propose(1, 0, 5);
        x.twice(0);
        x.deliver(0);
        x.deliver(2);
        due("chosen(0) by one that voted twice", x.chosen(0), NONE);
        x.deliver(0);
        due("chosen(0) by that one and another", x.chosen(0), 1);
    }

    private static void chosenPlaceByPlace() {
        BallotHouse x = Edges.active(2, 1, 2);
        x.propose(1, 0, 5);
        x.propose(1, 1, 6);
        x.lose(0);
        x.lose(2);
        x.settle(2);
        due("vote(1, 0)", x.vote(1, 0), 1);
        due("vote(0, 1)", x.vote(0, 1), 1);
        due("chosen(0)", x.chosen(0), NONE);
        due("chosen(1)", x.chosen(1), NONE);
    }

    // Voter 0 votes by 1 and voter 1 by 2 (both for 5): neither ballot has its W of two.
    private static void chosenBallotByBallot() {
        BallotHouse x = Edges.active(3, 2, 2);
        x.propose(1, 0, 5);
        x.deliver(0);
        Edges.loseAll(x);
        x.ballot(6, 1, 2);
        x.deliver(0);
        x.lose(2);
        x.settle(4);
        due("of(2, 0)", x.of(2, 0), Edges.IS_MOVING);
        x.deliver(0);
        due("vote(0, 0)", x.vote(0, 0), 1);
        due("vote(1, 0)", x.vote(1, 0), 2);
        due("chosen(0)", x.chosen(0), NONE);
    }

    // ---- States

    private static void making() {
        Edges.test("0 MADE: a NEW is on its way to it", TermsEdgesTest::newIsOnItsWay);
        Edges.test("0 MADE: .. When it comes (not before)", TermsEdgesTest::madeUntilNewComes);
        Edges.test("When it comes, it is READING", TermsEdgesTest::readingWhenNewComes);
    }

    private static void newIsOnItsWay() {
        BallotHouse x = Edges.inState(Edges.IS_MADE);
        due("of(2, 0)", x.of(2, 0), Edges.IS_MADE);
        due("about(3)", x.about(3), 1);
        Edges.letter(x, 0, Edges.NEW, 2, NONE, NONE, 0);
    }

    private static void madeUntilNewComes() {
        BallotHouse x = Edges.inState(Edges.IS_MADE);
        x.lose(0);
        due("settle(9)", x.settle(9), 0);
        due("of(2, 0)", x.of(2, 0), Edges.IS_MADE);
    }

    private static void readingWhenNewComes() {
        BallotHouse x = Edges.inState(Edges.IS_MADE);
        x.deliver(0);
        due("of(2, 0)", x.of(2, 0), Edges.IS_READING);
    }

    private static void readingSends() {
        Edges.test("a READ is sent to each VOTER that is a MEMBER of a BALLOT from BEHIND", TermsEdgesTest::readsFromBehind);
        Edges.test("(from 1, if that is 0)", TermsEdgesTest::readsFromOne);
        Edges.test("to the one ahead of it", TermsEdgesTest::readsToTheOneAhead);
        Edges.test("to each VOTER (once)", TermsEdgesTest::readsEachOnce);
        Edges.test("from VOTER 0 on", TermsEdgesTest::readsFromVoterZero);
    }

    private static void readsOf(BallotHouse x, int number, int... voters) {
        due("about(3)", x.about(3), voters.length);
        for (int k = 0; k < voters.length; k++) {
            Edges.letter(x, k, Edges.READ, number, voters[k], NONE, 0);
        }
    }

    // Ballots 1 to 3 are complete in turn, each of a voter of its own.
    private static BallotHouse threeInTurn() {
        BallotHouse x = new BallotHouse(5);
        for (int voter = 0; voter < 3; voter++) {
            x.ballot(1 << voter, 1, 1);
            x.settle(20);
        }
        return x;
    }

    private static void readsFromBehind() {
        BallotHouse x = threeInTurn();
        x.ballot(16, 1, 1);
        x.deliver(0);
        readsOf(x, 4, 2);
    }

    private static void readsFromOne() {
        BallotHouse x = new BallotHouse(5);
        x.ballot(2, 1, 1);
        x.ballot(8, 1, 1);
        x.ballot(16, 1, 1);
        x.lose(0);
        x.lose(0);
        x.deliver(0);
        readsOf(x, 3, 1, 3);
    }

    private static void readsToTheOneAhead() {
        BallotHouse x = threeInTurn();
        x.ballot(1, 1, 1);
        x.ballot(8, 1, 1);
        x.ballot(16, 1, 1);
        x.lose(0);
        x.deliver(0);
        x.lose(0);
        readsOf(x, 5, 0, 2);
    }

    private static void readsEachOnce() {
        BallotHouse x = new BallotHouse(3);
        x.ballot(7, 2, 2);
        x.ballot(3, 2, 2);
        x.ballot(6, 2, 2);
        x.lose(0);
        x.lose(0);
        x.deliver(0);
        readsOf(x, 3, 0, 1, 2);
    }

    private static void readsFromVoterZero() {
        BallotHouse x = new BallotHouse(7);
        x.ballot(64, 1, 1);
        x.ballot(63, 6, 6);
        x.ballot(127, 4, 4);
        x.lose(0);
        x.lose(0);
        x.deliver(0);
        readsOf(x, 3, 0, 1, 2, 3, 4, 5, 6);
    }

    private static void readingVoters() {
        Edges.test("READ: if its PROMISE is not above b (it is below)", TermsEdgesTest::readAboveThePromise);
        Edges.test("READ: if its PROMISE is not above b (it is b)", TermsEdgesTest::readOfThePromise);
        Edges.test("READ: else nothing", TermsEdgesTest::readBelowThePromise);
        Edges.test("READ ANSWER with its VOTES as they are (none)", TermsEdgesTest::answerWithoutVotes);
        Edges.test("READ ANSWER with its VOTES as they are (all)", TermsEdgesTest::answerWithAllVotes);
        Edges.test("READ ANSWER with its VOTES as they are (not as they come to be)", TermsEdgesTest::answerAsItWasSent);
        Edges.test("READ ANSWER with its VOTES as they are (later ones are not FOUND)", TermsEdgesTest::laterVotesAreNotFound);
    }

    private static void readAboveThePromise() {
        BallotHouse x = Edges.inState(Edges.IS_READING);
        due("promise(0)", x.promise(0), 1);
        x.deliver(0);
        due("promise(0) is 2 now", x.promise(0), 2);
        due("about(3)", x.about(3), 3);
        Edges.letter(x, 2, Edges.READ_ANSWER, 2, 0, NONE, 1);
    }

    private static void readOfThePromise() {
        BallotHouse x = Edges.inState(Edges.IS_READING);
        x.twice(0);
        x.deliver(0);
        x.deliver(2);
        due("promise(0)", x.promise(0), 2);
        due("about(3)", x.about(3), 4);
        Edges.letter(x, 2, Edges.READ_ANSWER, 2, 0, NONE, 1);
        Edges.letter(x, 3, Edges.READ_ANSWER, 2, 0, NONE, 1);
    }

    // Voter 0 is promised to 3 when the READ of 2, at 0 in the air, comes.
    private static BallotHouse lateRead() {
        BallotHouse x = Edges.inState(Edges.IS_READING);
        x.ballot(7, 2, 2);
        x.deliver(3);
        x.deliver(3);
        return x;
    }

    private static void readBelowThePromise() {
        due("promise(0)", lateRead().promise(0), 3);
        Edges.comesInVain("a READ of 2", TermsEdgesTest::lateRead, 0);
    }

    private static void answerWithoutVotes() {
        BallotHouse x = Edges.active(1, 1, 1);
        x.propose(1, 0, 5);
        x.lose(0);
        x.ballot(1, 1, 1);
        x.settle(2);
        Edges.letter(x, 0, Edges.READ_ANSWER, 2, 0, NONE, 0);
    }

    private static void answerWithAllVotes() {
        BallotHouse x = Edges.active(1, 1, 1);
        for (int place = 0; place < 8; place++) {
            x.propose(1, place, 0);
        }
        x.settle(16);
        x.ballot(1, 1, 1);
        x.settle(2);
        Edges.letter(x, 0, Edges.READ_ANSWER, 2, 0, NONE, 255);
    }

    // A second answer of the same READ lies in the air while the voter votes by 2 in place 5.
    private static void answerAsItWasSent() {
        BallotHouse x = Edges.active(1, 1, 1);
        x.ballot(1, 1, 1);
        x.settle(2);
        x.twice(0);
        x.deliver(0);
        x.deliver(1);
        x.deliver(1);
        x.propose(2, 5, 55);
        x.deliver(1);
        due("vote(0, 5)", x.vote(0, 5), 2);
        Edges.letter(x, 0, Edges.READ_ANSWER, 2, 0, NONE, 0);
    }

    // The voter answers 2; before that comes, it votes by 3.
    private static void laterVotesAreNotFound() {
        BallotHouse x = Edges.active(1, 1, 1);
        x.ballot(1, 1, 1);
        x.ballot(1, 1, 1);
        x.deliver(0);
        x.deliver(1);
        Edges.letter(x, 1, Edges.READ_ANSWER, 2, 0, NONE, 0);
        x.deliver(0);
        for (int step = 0; step < 4; step++) {
            x.deliver(1);
        }
        due("of(3, 0)", x.of(3, 0), Edges.IS_ACTIVE);
        x.propose(3, 0, 33);
        x.deliver(1);
        due("vote(0, 0)", x.vote(0, 0), 3);
        Edges.letter(x, 0, Edges.READ_ANSWER, 2, 0, NONE, 0);
        x.deliver(0);
        due("of(2, 5)", x.of(2, 5), 1);
        due("of(2, 6)", x.of(2, 6), 0);
        due("said(2, 0)", x.said(2, 0), 0);
        due("of(2, 0)", x.of(2, 0), Edges.IS_ASKING);
    }

    private static void readingFinds() {
        Edges.test("The first ANSWER of each VOTER counts (the second does not)", TermsEdgesTest::firstAnswerCounts);
        Edges.test("of all VOTES in ANSWERS that count (what does not count is not FOUND)", TermsEdgesTest::onlyWhatCountsIsFound);
        Edges.test("the one by the greatest ballot", TermsEdgesTest::foundByTheGreatest);
        Edges.test("FOUND in a PLACE", TermsEdgesTest::foundPlaceByPlace);
        Edges.test("FOUND .. if there is any (none)", TermsEdgesTest::nothingFound);
        Edges.test("FOUND .. if there is any (one vote of one voter)", TermsEdgesTest::oneVoteIsFound);
        Edges.test("FOUND .. if there is any (a value of 0)", TermsEdgesTest::zeroIsFound);
    }

    private static void firstAnswerCounts() {
        BallotHouse x = Edges.inState(Edges.IS_READING);
        x.deliver(0);
        x.twice(2);
        x.deliver(2);
        due("of(2, 5)", x.of(2, 5), 1);
        x.deliver(2);
        due("of(2, 5)", x.of(2, 5), 1);
        due("two answers of one voter are no READ QUORUM of two", x.of(2, 0), Edges.IS_READING);
        x.deliver(0);
        x.deliver(1);
        due("two answers of two are", x.of(2, 0), Edges.IS_MOVING);
    }

    // Voter 2 alone has a vote; 0 and 1 make the READ QUORUM before its answer comes.
    private static void onlyWhatCountsIsFound() {
        BallotHouse x = Edges.active(3, 2, 2);
        x.propose(1, 0, 5);
        x.deliver(2);
        Edges.loseAll(x);
        x.ballot(7, 2, 2);
        x.settle(4);
        Edges.letter(x, 2, Edges.READ_ANSWER, 2, 2, NONE, 1);
        x.settle(100);
        due("of(2, 0)", x.of(2, 0), Edges.IS_ACTIVE);
        due("of(2, 5)", x.of(2, 5), 3);
        due("of(2, 6)", x.of(2, 6), 0);
        due("said(2, 0)", x.said(2, 0), 0);
    }

    // Voter 0 has voted 90 in place 0 by ballot 1, voter 1 has voted 10 there by ballot 2 (whose
    // readers 1 and 2 had no vote), and ballot 3 of all three is READING: READ to 0, 1, 2 in the air.
    private static BallotHouse twoVotes() {
        BallotHouse x = Edges.active(3, 2, 2);
        x.propose(1, 0, 90);
        x.deliver(0);
        Edges.loseAll(x);
        x.ballot(7, 2, 2);
        x.deliver(0);
        x.lose(0);
        x.settle(100);
        x.propose(2, 0, 10);
        x.deliver(1);
        Edges.loseAll(x);
        x.ballot(7, 2, 2);
        x.deliver(0);
        x.lose(2);
        return x;
    }

    private static void foundByTheGreatest() {
        for (int first = 0; first <= 1; first++) {
            BallotHouse x = twoVotes();
            due("value(0, 0)", x.value(0, 0), 90);
            due("value(1, 0)", x.value(1, 0), 10);
            x.deliver(first);
            x.deliver(1);
            x.settle(2);
            due("of(3, 0)", x.of(3, 0), Edges.IS_MOVING);
            due("said(3, 0) with voter " + first + " first", x.said(3, 0), 10);
            x.settle(1);
            due("value(0, 0)", x.value(0, 0), 10);
        }
    }

    // Voter 0 has votes in places 0 and 1, voter 1 in places 1 and 7.
    private static void foundPlaceByPlace() {
        BallotHouse x = Edges.active(2, 2, 1);
        x.propose(1, 0, 10);
        x.propose(1, 1, 11);
        x.propose(1, 7, 17);
        x.lose(1);
        x.lose(3);
        x.settle(100);
        x.ballot(3, 1, 2);
        x.settle(3);
        Edges.letter(x, 0, Edges.READ_ANSWER, 2, 0, NONE, 3);
        Edges.letter(x, 1, Edges.READ_ANSWER, 2, 1, NONE, 130);
        x.settle(1);
        due("of(2, 6) by one answer", x.of(2, 6), 3);
        x.settle(1);
        due("of(2, 6) by both", x.of(2, 6), 131);
        due("said(2, 0)", x.said(2, 0), 10);
        due("said(2, 1)", x.said(2, 1), 11);
        due("said(2, 7)", x.said(2, 7), 17);
        due("said(2, 6)", x.said(2, 6), 0);
    }

    private static void nothingFound() {
        BallotHouse x = Edges.active(3, 2, 2);
        x.ballot(7, 2, 2);
        x.settle(100);
        due("of(2, 0)", x.of(2, 0), Edges.IS_ACTIVE);
        due("of(2, 6)", x.of(2, 6), 0);
        for (int place = 0; place < 8; place++) {
            due("said(2, " + place + ")", x.said(2, place), 0);
        }
    }

    private static void oneVoteIsFound() {
        BallotHouse x = Edges.active(3, 2, 2);
        x.propose(1, 4, 44);
        x.deliver(1);
        Edges.loseAll(x);
        due("chosen(4)", x.chosen(4), NONE);
        x.ballot(7, 2, 2);
        x.settle(100);
        due("of(2, 6)", x.of(2, 6), 16);
        due("chosen(4)", x.chosen(4), 2);
        due("chosenValue(4)", x.chosenValue(4), 44);
    }

    private static void zeroIsFound() {
        BallotHouse x = Edges.active(1, 1, 1);
        x.propose(1, 4, 0);
        x.settle(2);
        x.ballot(1, 1, 1);
        x.settle(100);
        due("of(2, 6)", x.of(2, 6), 16);
        due("vote(0, 4)", x.vote(0, 4), 2);
        due("chosen(4)", x.chosen(4), 1);
        due("propose(2, 4, 1)", x.propose(2, 4, 1), false);
    }

    private static void readingEnds() {
        Edges.test("READING is over when those that answered hold a READ QUORUM", TermsEdgesTest::readingWaitsForR);
        Edges.test("a READ QUORUM of each BALLOT", TermsEdgesTest::readingWaitsForEachBallot);
        Edges.test("of each BALLOT from BEHIND (not of those below it)", TermsEdgesTest::readingDoesNotWaitBelowBehind);
        Edges.test("(from 1, if that is 0): READING waits for ballot 1 too", TermsEdgesTest::readingWaitsFromOne);
        Edges.test("to the one ahead (not of itself)", TermsEdgesTest::readingDoesNotWaitForItself);
        Edges.test("READING is over .. (at once, if there is none)", TermsEdgesTest::readingOfTheFirst);
    }

    private static void readingWaitsForR() {
        for (int n = 1; n <= 7; n++) {
            for (int r = 1; r <= n; r++) {
                BallotHouse x = Edges.active(n, r, n + 1 - r);
                x.ballot(1, 1, 1);
                x.settle(1 + n);
                x.settle(r - 1);
                due("of(2, 0) with " + (r - 1) + " answers of " + n, x.of(2, 0), Edges.IS_READING);
                x.settle(1);
                due("of(2, 0) with " + r + " answers of " + n, x.of(2, 0), Edges.IS_ASKING);
            }
        }
    }

    // Ballot 3 reads 1 (voters 0, 1) and 2 (voters 1, 2), R being 2 in both; it waits for all three.
    private static void readingWaitsForEachBallot() {
        for (int last = 0; last <= 2; last += 2) {
            BallotHouse x = new BallotHouse(3);
            x.ballot(3, 2, 1);
            x.ballot(6, 2, 1);
            x.ballot(1, 1, 1);
            x.lose(0);
            x.lose(0);
            x.deliver(0);
            x.silent(last, true);
            x.settle(100);
            due("of(3, 0) without voter " + last, x.of(3, 0), Edges.IS_READING);
            x.silent(last, false);
            x.settle(2);
            due("of(3, 0) with voter " + last, x.of(3, 0), Edges.IS_ASKING);
        }
    }

    private static void readingDoesNotWaitBelowBehind() {
        BallotHouse x = threeInTurn();
        x.silent(0, true);
        x.silent(1, true);
        x.ballot(1, 1, 1);
        x.settle(3);
        due("of(4, 5)", x.of(4, 5), 4);
        due("of(4, 0)", x.of(4, 0), Edges.IS_ASKING);
    }

    private static void readingWaitsFromOne() {
        BallotHouse x = new BallotHouse(2);
        x.ballot(1, 1, 1);
        x.ballot(2, 1, 1);
        x.ballot(3, 1, 2);
        x.lose(0);
        x.lose(0);
        x.silent(0, true);
        x.settle(100);
        due("of(3, 5)", x.of(3, 5), 2);
        due("of(3, 0)", x.of(3, 0), Edges.IS_READING);
    }

    private static void readingDoesNotWaitForItself() {
        BallotHouse x = new BallotHouse(3);
        x.ballot(1, 1, 1);
        x.settle(3);
        x.ballot(6, 2, 2);
        x.settle(3);
        due("of(2, 5)", x.of(2, 5), 1);
        due("of(2, 0)", x.of(2, 0), Edges.IS_ASKING);
    }

    private static void readingOfTheFirst() {
        BallotHouse x = new BallotHouse(3);
        x.ballot(7, 2, 2);
        x.deliver(0);
        due("of(1, 0)", x.of(1, 0), Edges.IS_ASKING);
        due("of(1, 5)", x.of(1, 5), 0);
        due("about(3)", x.about(3), 1);
        Edges.letter(x, 0, Edges.COMPLETE, 1, NONE, NONE, 0);
    }

    private static void moving() {
        Edges.test("for each PLACE (from 0 on) .. to each of its own MEMBERS, from VOTER 0 on", TermsEdgesTest::votesInOrder);
        Edges.test("in which a value was FOUND (in no other)", TermsEdgesTest::votesOnlyWhereFound);
        Edges.test("to each of its own MEMBERS (to no other)", TermsEdgesTest::votesOnlyToMembers);
    }

    // Ballot 1, of four voters, has its values in these places; ballot 2 begins MOVING.
    private static BallotHouse movingBy(int members, int many, int... places) {
        BallotHouse x = Edges.active(4, 1, 4);
        for (int place : places) {
            x.propose(1, place, 10 + place);
        }
        x.settle(100);
        x.ballot(members, 1, many);
        x.deliver(0);
        x.lose(1);
        x.lose(1);
        x.lose(1);
        x.settle(2);
        return x;
    }

    private static void votesInOrder() {
        BallotHouse x = movingBy(14, 3, 7, 3, 0);
        due("about(3)", x.about(3), 9);
        int[] places = {0, 3, 7};
        for (int k = 0; k < 9; k++) {
            Edges.letter(x, k, Edges.VOTE, 2, 1 + k % 3, places[k / 3], 0);
        }
    }

    private static void votesOnlyWhereFound() {
        BallotHouse x = movingBy(15, 4, 5);
        due("about(3)", x.about(3), 4);
        for (int k = 0; k < 4; k++) {
            Edges.letter(x, k, Edges.VOTE, 2, k, 5, 0);
        }
    }

    private static void votesOnlyToMembers() {
        BallotHouse x = movingBy(8, 1, 0, 1);
        due("about(3)", x.about(3), 2);
        Edges.letter(x, 0, Edges.VOTE, 2, 3, 0, 0);
        Edges.letter(x, 1, Edges.VOTE, 2, 3, 1, 0);
        x.settle(100);
        due("vote(0, 0)", x.vote(0, 0), 1);
        due("vote(3, 0)", x.vote(3, 0), 2);
    }

    private static void movingVoters() {
        Edges.test("VOTE: if its PROMISE is not above b (it is below)", TermsEdgesTest::voteAboveThePromise);
        Edges.test("VOTE: if its PROMISE is not above b (it is b)", TermsEdgesTest::voteOfThePromise);
        Edges.test("VOTE: else nothing", TermsEdgesTest::voteBelowThePromise);
        Edges.test("a VOTE ANSWER (also if it voted so before)", TermsEdgesTest::voteAnsweredAgain);
    }

    // Voter 3 was not read by ballot 2, so its VOTE finds it with the promise of ballot 1.
    private static void voteAboveThePromise() {
        BallotHouse x = movingBy(8, 1, 6);
        due("promise(3)", x.promise(3), 1);
        x.deliver(0);
        due("promise(3)", x.promise(3), 2);
        due("vote(3, 6)", x.vote(3, 6), 2);
        due("value(3, 6)", x.value(3, 6), 16);
        due("about(3)", x.about(3), 1);
        Edges.letter(x, 0, Edges.VOTE_ANSWER, 2, 3, 6, 0);
    }

    private static void voteOfThePromise() {
        BallotHouse x = movingBy(1, 1, 6);
        due("promise(0)", x.promise(0), 2);
        x.deliver(0);
        due("promise(0)", x.promise(0), 2);
        due("vote(0, 6)", x.vote(0, 6), 2);
        Edges.letter(x, 0, Edges.VOTE_ANSWER, 2, 0, 6, 0);
    }

    // Voter 0 is promised to 2 when the VOTE of 1 in place 3, at 0 in the air, comes.
    private static BallotHouse lateVote() {
        BallotHouse x = Edges.active(1, 1, 1);
        x.propose(1, 3, 5);
        x.ballot(1, 1, 1);
        x.deliver(1);
        x.deliver(1);
        return x;
    }

    private static void voteBelowThePromise() {
        due("promise(0)", lateVote().promise(0), 2);
        Edges.comesInVain("a VOTE of 1", TermsEdgesTest::lateVote, 0);
    }

    private static void voteAnsweredAgain() {
        BallotHouse x = Edges.active(1, 1, 1);
        x.propose(1, 3, 5);
        x.twice(0);
        x.deliver(0);
        x.deliver(0);
        due("about(3)", x.about(3), 2);
        Edges.letter(x, 0, Edges.VOTE_ANSWER, 1, 0, 3, 0);
        Edges.letter(x, 1, Edges.VOTE_ANSWER, 1, 0, 3, 0);
    }

    private static void movingEnds() {
        Edges.test("MOVING is over when .. a WRITE QUORUM answered", TermsEdgesTest::movingWaitsForW);
        Edges.test("MOVING is over when of each such PLACE", TermsEdgesTest::movingWaitsForEachPlace);
        Edges.test("answered (that they voted is not enough)", TermsEdgesTest::movingWaitsForAnswers);
        Edges.test("MOVING is over .. (at once, if there is none)", TermsEdgesTest::movingOfNothing);
    }

    private static void movingWaitsForW() {
        for (int n = 1; n <= 7; n++) {
            for (int w = 1; w <= n; w++) {
                BallotHouse x = Edges.active(n, 1, n);
                x.propose(1, 2, 22);
                x.settle(2 * n);
                x.ballot((1 << n) - 1, n + 1 - w, w);
                x.settle(1 + n + 1);
                x.settle(n - 1 + n);
                x.settle(w - 1);
                due("of(2, 0) with " + (w - 1) + " answers of " + n, x.of(2, 0), Edges.IS_MOVING);
                x.settle(1);
                due("of(2, 0) with " + w + " answers of " + n, x.of(2, 0), Edges.IS_ASKING);
            }
        }
    }

    private static void movingWaitsForEachPlace() {
        for (int last = 0; last < 3; last++) {
            BallotHouse x = movingBy(1, 1, 0, 3, 7);
            x.twice(last);
            x.lose(last);
            x.settle(2 + 1 + 2);
            due("of(2, 0) with one place missing", x.of(2, 0), Edges.IS_MOVING);
            x.settle(1);
            due("of(2, 0) with all", x.of(2, 0), Edges.IS_ASKING);
        }
    }

    private static void movingWaitsForAnswers() {
        BallotHouse x = movingBy(1, 1, 0);
        x.deliver(0);
        due("chosen(0)", x.chosen(0), 1);
        due("vote(0, 0)", x.vote(0, 0), 2);
        due("of(2, 0)", x.of(2, 0), Edges.IS_MOVING);
        x.lose(0);
        due("settle(9)", x.settle(9), 0);
        due("of(2, 0)", x.of(2, 0), Edges.IS_MOVING);
    }

    private static void movingOfNothing() {
        BallotHouse x = movingBy(15, 4);
        due("of(2, 0)", x.of(2, 0), Edges.IS_ASKING);
        due("about(3)", x.about(3), 1);
        Edges.letter(x, 0, Edges.COMPLETE, 2, NONE, NONE, 0);
    }

    private static void asking() {
        Edges.test("as it begins, a COMPLETE .. is sent to the MASTER", TermsEdgesTest::completeIsSentOnce);
        Edges.test("if COMPLETE is that BEHIND", TermsEdgesTest::completeIsBehind);
        Edges.test("if COMPLETE .. is this BALLOT already", TermsEdgesTest::completeIsThisAlready);
        Edges.test("COMPLETE: else nothing (another with the same BEHIND was first)", TermsEdgesTest::completeIsAnother);
        Edges.test("COMPLETE: else nothing (a later one is COMPLETE)", TermsEdgesTest::completeIsLater);
        Edges.test("if COMPLETE is that BEHIND (0), though a BALLOT ahead asks too", TermsEdgesTest::laterBallotIsFirst);
    }

    private static void completeIsSentOnce() {
        BallotHouse x = Edges.inState(Edges.IS_ASKING);
        due("about(3)", x.about(3), 2);
        Edges.letter(x, 0, Edges.VOTE_ANSWER, 2, 2, 0, 0);
        Edges.letter(x, 1, Edges.COMPLETE, 2, NONE, NONE, 0);
        x.deliver(0);
        due("about(3): the third answer sends no more", x.about(3), 1);
    }

    private static void completeIsBehind() {
        BallotHouse x = Edges.inState(Edges.IS_ASKING);
        due("about(2)", x.about(2), 1);
        x.settle(2);
        due("about(2)", x.about(2), 2);
        due("about(3)", x.about(3), 1);
        Edges.letter(x, 0, Edges.ACTIVE, 2, NONE, NONE, 0);
    }

    private static void completeIsThisAlready() {
        BallotHouse x = Edges.inState(Edges.IS_ASKING);
        x.twice(1);
        x.settle(3);
        due("about(2)", x.about(2), 2);
        due("about(3)", x.about(3), 2);
        Edges.letter(x, 0, Edges.ACTIVE, 2, NONE, NONE, 0);
        Edges.letter(x, 1, Edges.ACTIVE, 2, NONE, NONE, 0);
    }

    // Ballots 1 and 2 both have BEHIND 0; 1 is COMPLETE when the COMPLETE of 2, at 0, comes.
    private static BallotHouse secondOfTwo() {
        BallotHouse x = new BallotHouse(1);
        x.ballot(1, 1, 1);
        x.ballot(1, 1, 1);
        x.deliver(1);
        x.deliver(1);
        x.deliver(1);
        x.deliver(0);
        x.deliver(1);
        x.deliver(1);
        return x;
    }

    private static void completeIsAnother() {
        BallotHouse x = secondOfTwo();
        due("about(2)", x.about(2), 1);
        Edges.letter(x, 0, Edges.COMPLETE, 2, NONE, NONE, 0);
        Edges.comesInVain("a COMPLETE of 2", TermsEdgesTest::secondOfTwo, 0);
    }

    // A second COMPLETE of 1 lies at 0 while 2, with BEHIND 1, is COMPLETE.
    private static BallotHouse oldComplete() {
        BallotHouse x = new BallotHouse(1);
        x.ballot(1, 1, 1);
        x.deliver(0);
        x.twice(0);
        x.deliver(1);
        x.deliver(1);
        x.ballot(1, 1, 1);
        for (int step = 0; step < 5; step++) {
            x.deliver(1);
        }
        return x;
    }

    private static void completeIsLater() {
        BallotHouse x = oldComplete();
        due("about(2)", x.about(2), 2);
        Edges.letter(x, 0, Edges.COMPLETE, 1, NONE, NONE, 0);
        Edges.comesInVain("a COMPLETE of 1", TermsEdgesTest::oldComplete, 0);
    }

    private static void laterBallotIsFirst() {
        BallotHouse x = new BallotHouse(1);
        x.ballot(1, 1, 1);
        x.ballot(1, 1, 1);
        x.ballot(1, 1, 1);
        x.lose(1);
        x.deliver(1);
        x.settle(100);
        due("of(1, 0)", x.of(1, 0), Edges.IS_ACTIVE);
        due("of(3, 0)", x.of(3, 0), Edges.IS_ASKING);

        BallotHouse y = new BallotHouse(1);
        y.ballot(1, 1, 1);
        y.ballot(1, 1, 1);
        y.ballot(1, 1, 1);
        y.lose(0);
        y.lose(0);
        y.settle(100);
        due("of(3, 0)", y.of(3, 0), Edges.IS_ACTIVE);
        due("about(2)", y.about(2), 3);
    }

    private static void activeLeader() {
        Edges.test("4 ACTIVE: when that comes (not before)", TermsEdgesTest::activeWhenItComes);
        Edges.test("in PLACES in which nothing was FOUND", TermsEdgesTest::proposedWhereNothingWasFound);
        Edges.test("one in each", TermsEdgesTest::oneInEach);
        Edges.test("VOTES are sent as in MOVING", TermsEdgesTest::proposalsAreSentInOrder);
    }

    private static void activeWhenItComes() {
        BallotHouse x = Edges.inState(Edges.IS_ASKING);
        x.settle(2);
        due("of(2, 0)", x.of(2, 0), Edges.IS_ASKING);
        due("propose(2, 1, 5)", x.propose(2, 1, 5), false);
        x.settle(1);
        due("of(2, 0)", x.of(2, 0), Edges.IS_ACTIVE);
        due("propose(2, 1, 5)", x.propose(2, 1, 5), true);
    }

    private static void proposedWhereNothingWasFound() {
        BallotHouse x = Edges.inState(Edges.IS_ACTIVE);
        for (int place = 0; place < 8; place++) {
            due("propose(2, " + place + ", 5)", x.propose(2, place, 5), place != 0);
        }
    }

    private static void oneInEach() {
        BallotHouse x = Edges.active(1, 1, 1);
        for (int place = 0; place < 8; place++) {
            due("propose(1, " + place + ", 5)", x.propose(1, place, 5), true);
        }
        x.settle(100);
        for (int place = 0; place < 8; place++) {
            due("propose(1, " + place + ", 5)", x.propose(1, place, 5), false);
        }
    }

    private static void proposalsAreSentInOrder() {
        BallotHouse x = new BallotHouse(7);
        x.ballot(1 + 8 + 64, 2, 2);
        x.settle(3);
        x.propose(1, 7, 5);
        x.propose(1, 0, 5);
        due("about(3)", x.about(3), 6);
        int[] voters = {0, 3, 6};
        for (int k = 0; k < 6; k++) {
            Edges.letter(x, k, Edges.VOTE, 1, voters[k % 3], k < 3 ? 7 : 0, 0);
        }
    }

    private static void knowing() {
        Edges.test("A LEADER KNOWS a PLACE as chosen when a WRITE QUORUM answered there", TermsEdgesTest::knowsByW);
        Edges.test("KNOWS .. (in MOVING, too)", TermsEdgesTest::knowsInMoving);
    }

    private static void knowsByW() {
        for (int n = 1; n <= 7; n++) {
            for (int w = 1; w <= n; w++) {
                BallotHouse x = Edges.active(n, n + 1 - w, w);
                x.propose(1, 3, 33);
                x.settle(n + w - 1);
                due("of(1, 8) with " + (w - 1) + " answers of " + n, x.of(1, 8), 0);
                x.settle(1);
                due("of(1, 8) with " + w + " answers of " + n, x.of(1, 8), 8);
            }
        }
    }

    private static void knowsInMoving() {
        BallotHouse x = movingBy(1, 1, 2, 5);
        x.deliver(0);
        x.deliver(1);
        due("of(2, 0)", x.of(2, 0), Edges.IS_MOVING);
        due("of(2, 8)", x.of(2, 8), 4);
    }

    private static void otherStates() {
        Edges.test("in another STATE: a NEW in READING", () -> newComesInVain(Edges.IS_READING));
        Edges.test("in another STATE: a NEW in MOVING", () -> newComesInVain(Edges.IS_MOVING));
        Edges.test("in another STATE: a NEW in ASKING", () -> newComesInVain(Edges.IS_ASKING));
        Edges.test("in another STATE: a NEW in ACTIVE", () -> newComesInVain(Edges.IS_ACTIVE));
        Edges.test("in another STATE: a READ ANSWER in MOVING", () -> readAnswerComesInVain(Edges.IS_MOVING, 0));
        Edges.test("in another STATE: a READ ANSWER in ASKING", () -> readAnswerComesInVain(Edges.IS_ASKING, 6));
        Edges.test("in another STATE: a READ ANSWER in ACTIVE", () -> readAnswerComesInVain(Edges.IS_ACTIVE, 9));
        Edges.test("in another STATE: an ACTIVE in ACTIVE", TermsEdgesTest::activeComesInVain);
        Edges.test("(but VOTE ANSWERS in 2, 3, 4): in MOVING", TermsEdgesTest::voteAnswerInMoving);
        Edges.test("(but VOTE ANSWERS in 2, 3, 4): in ASKING", TermsEdgesTest::voteAnswerInAsking);
        Edges.test("(but VOTE ANSWERS in 2, 3, 4): in ACTIVE", TermsEdgesTest::voteAnswerInActive);
    }

    // A second NEW of 2 lies at 0 while 2 goes on to this state.
    private static BallotHouse withAnotherNew(int state) {
        BallotHouse x = Edges.inState(Edges.IS_MADE);
        x.twice(0);
        int[] deliveries = {0, 1, 6, 12, 15};
        for (int step = 0; step < deliveries[state]; step++) {
            x.deliver(1);
        }
        return x;
    }

    private static void newComesInVain(int state) {
        BallotHouse x = withAnotherNew(state);
        due("of(2, 0)", x.of(2, 0), state);
        due("air(0, 0)", x.air(0, 0), Edges.NEW);
        Edges.comesInVain("a NEW", () -> withAnotherNew(state), 0);
    }

    // The READ ANSWER of voter 2, that has voted 77 in place 5 beside, lies at 0 while 2 goes on.
    private static BallotHouse withLateReadAnswer(int deliveries) {
        BallotHouse x = Edges.active(3, 2, 2);
        x.propose(1, 0, 50);
        x.settle(6);
        x.propose(1, 5, 77);
        x.deliver(2);
        Edges.loseAll(x);
        x.ballot(7, 2, 2);
        x.settle(1 + 3 + 2);
        for (int step = 0; step < deliveries; step++) {
            x.deliver(1);
        }
        return x;
    }

    private static void readAnswerComesInVain(int state, int deliveries) {
        BallotHouse x = withLateReadAnswer(deliveries);
        due("of(2, 0)", x.of(2, 0), state);
        Edges.letter(x, 0, Edges.READ_ANSWER, 2, 2, NONE, 33);
        Edges.comesInVain("a READ ANSWER", () -> withLateReadAnswer(deliveries), 0);
    }

    private static BallotHouse withAnotherActive() {
        BallotHouse x = Edges.inState(Edges.IS_ASKING);
        x.settle(2);
        x.twice(0);
        x.deliver(0);
        x.propose(2, 3, 33);
        return x;
    }

    private static void activeComesInVain() {
        BallotHouse x = withAnotherActive();
        due("of(2, 0)", x.of(2, 0), Edges.IS_ACTIVE);
        due("air(0, 0)", x.air(0, 0), Edges.ACTIVE);
        Edges.comesInVain("an ACTIVE", TermsEdgesTest::withAnotherActive, 0);
    }

    private static void voteAnswerInMoving() {
        BallotHouse x = Edges.inState(Edges.IS_MOVING);
        x.deliver(1);
        x.deliver(3);
        due("of(2, 0)", x.of(2, 0), Edges.IS_MOVING);
        due("answered(2, 0)", x.answered(2, 0), 1);
    }

    private static void voteAnswerInAsking() {
        BallotHouse x = Edges.inState(Edges.IS_ASKING);
        due("answered(2, 0)", x.answered(2, 0), 3);
        x.deliver(0);
        due("of(2, 0)", x.of(2, 0), Edges.IS_ASKING);
        due("answered(2, 0)", x.answered(2, 0), 7);
    }

    private static void voteAnswerInActive() {
        BallotHouse x = Edges.inState(Edges.IS_ASKING);
        x.deliver(1);
        x.deliver(1);
        due("of(2, 0)", x.of(2, 0), Edges.IS_ACTIVE);
        x.deliver(0);
        due("answered(2, 0)", x.answered(2, 0), 7);
    }

    // ---- The air

    private static void air() {
        Edges.test("in the order in which it was sent", TermsEdgesTest::airIsInOrder);
        Edges.test("numbered from 0 on as it lies", TermsEdgesTest::airIsNumberedAnew);
        Edges.test("400 at most", TermsEdgesTest::airHas400);
        Edges.test("what would be more is lost at once", TermsEdgesTest::whatIsMoreIsLost);
        Edges.test("what would be more (of several, the first that have room lie there)", TermsEdgesTest::whatHasRoomLies);
        Edges.test("what would be more: what is delivered gives its room to its answer", TermsEdgesTest::answerHasItsRoom);
        Edges.test("what would be more: READING begins though READS are lost", () -> beginsInFullAir(Edges.IS_READING));
        Edges.test("what would be more: MOVING begins though VOTES are lost", () -> beginsInFullAir(Edges.IS_MOVING));
    }

    private static void airIsInOrder() {
        BallotHouse x = Edges.active(2, 1, 2);
        x.propose(1, 4, 5);
        x.ballot(1, 1, 1);
        x.propose(1, 2, 5);
        Edges.letter(x, 0, Edges.VOTE, 1, 0, 4, 0);
        Edges.letter(x, 1, Edges.VOTE, 1, 1, 4, 0);
        Edges.letter(x, 2, Edges.NEW, 2, NONE, NONE, 0);
        Edges.letter(x, 3, Edges.VOTE, 1, 0, 2, 0);
        Edges.letter(x, 4, Edges.VOTE, 1, 1, 2, 0);
        due("air(5, 0)", x.air(5, 0), NONE);
    }

    private static void airIsNumberedAnew() {
        BallotHouse x = Edges.active(3, 2, 2);
        x.propose(1, 0, 5);
        x.lose(1);
        Edges.letter(x, 0, Edges.VOTE, 1, 0, 0, 0);
        Edges.letter(x, 1, Edges.VOTE, 1, 2, 0, 0);
        due("air(2, 0)", x.air(2, 0), NONE);
        x.deliver(0);
        Edges.letter(x, 0, Edges.VOTE, 1, 2, 0, 0);
        Edges.letter(x, 1, Edges.VOTE_ANSWER, 1, 0, 0, 0);
    }

    private static void airHas400() {
        BallotHouse x = Edges.crowd(399);
        due("about(3)", x.about(3), 399);
        due("air(399, 0)", x.air(399, 0), NONE);
        due("ballot(1, 1, 1)", x.ballot(1, 1, 1), 2);
        due("about(3)", x.about(3), 400);
        due("about(4)", x.about(4), 0);
        Edges.letter(x, 399, Edges.NEW, 2, NONE, NONE, 0);
        due("air(400, 0)", x.air(400, 0), NONE);
    }

    private static void whatIsMoreIsLost() {
        BallotHouse x = Edges.crowd(400);
        due("about(4)", x.about(4), 0);
        x.ballot(1, 1, 1);
        due("about(3)", x.about(3), 400);
        due("about(4)", x.about(4), 1);
        due("air(399, 0)", x.air(399, 0), Edges.VOTE);
        x.settle(2000);
        due("about(3) when all has come", x.about(3), 0);
        due("of(2, 0): its NEW never comes", x.of(2, 0), Edges.IS_MADE);
    }

    private static void whatHasRoomLies() {
        BallotHouse x = Edges.crowd(400);
        x.lose(0);
        x.lose(0);
        x.lose(0);
        due("again(1)", x.again(1), 56);
        due("about(3)", x.about(3), 400);
        due("about(4)", x.about(4), 53);
        for (int voter = 0; voter < 3; voter++) {
            Edges.letter(x, 397 + voter, Edges.VOTE, 1, voter, 0, 0);
        }
    }

    private static void answerHasItsRoom() {
        BallotHouse x = Edges.crowd(400);
        x.deliver(0);
        due("about(3)", x.about(3), 400);
        due("about(4)", x.about(4), 0);
        Edges.letter(x, 399, Edges.VOTE_ANSWER, 1, 0, 0, 0);
    }

    // What brings ballot 2 into the state lies at 0; its room is all there is for three letters.
    private static void beginsInFullAir(int state) {
        BallotHouse x = Edges.inState(Edges.IS_MADE);
        if (state == Edges.IS_MOVING) {
            x.settle(5);
        }
        for (int left = 400 - x.about(3); left > 0; left--) {
            x.twice(0);
        }
        int kind = state == Edges.IS_READING ? Edges.READ : Edges.VOTE;
        int place = state == Edges.IS_READING ? NONE : 0;
        due("of(2, 0)", x.of(2, 0), state - 1);
        due("deliver(0)", x.deliver(0), true);
        due("of(2, 0)", x.of(2, 0), state);
        due("about(3)", x.about(3), 400);
        due("about(4)", x.about(4), 2);
        Edges.letter(x, 399, kind, 2, 0, place, 0);
        x.settle(3000);
        due("of(2, 0): what is lost does not come", x.of(2, 0), state);
        due("again(2) asks for it anew", x.again(2), 2);
        x.settle(100);
        due("of(2, 0)", x.of(2, 0), Edges.IS_ACTIVE);
    }

    private static void silentVoters() {
        Edges.test("A SILENT VOTER gets nothing (no READ)", () -> silentGetsNothing(Edges.IS_READING, 1));
        Edges.test("A SILENT VOTER gets nothing (no VOTE)", () -> silentGetsNothing(Edges.IS_MOVING, 2));
        Edges.test("as long as it is SILENT", TermsEdgesTest::silentNoMore);
        Edges.test("(what is for it lies on its way)", TermsEdgesTest::silentsLettersLie);
        Edges.test("SILENT: what is for a LEADER or the MASTER comes", TermsEdgesTest::othersGetTheirs);
        Edges.test("it keeps all that it has", TermsEdgesTest::silentKeepsAll);
    }

    private static void silentGetsNothing(int state, int k) {
        BallotHouse x = Edges.inState(state);
        x.silent(1, true);
        due("air(" + k + ", 2)", x.air(k, 2), 1);
        due("deliver(" + k + ")", x.deliver(k), false);
        int promise = x.promise(1);
        x.settle(100);
        due("promise(1)", x.promise(1), promise);
        due("vote(1, 0)", x.vote(1, 0), 1);
        due("deliver(0), what is left being for it", x.deliver(0), false);
    }

    private static void silentNoMore() {
        BallotHouse x = Edges.inState(Edges.IS_READING);
        x.silent(1, true);
        due("deliver(1)", x.deliver(1), false);
        x.silent(1, false);
        due("deliver(1)", x.deliver(1), true);
        due("promise(1)", x.promise(1), 2);
    }

    private static void silentsLettersLie() {
        BallotHouse x = Edges.inState(Edges.IS_READING);
        x.silent(0, true);
        x.silent(2, true);
        due("settle(2)", x.settle(2), 2);
        due("about(3)", x.about(3), 2);
        Edges.letter(x, 0, Edges.READ, 2, 0, NONE, 0);
        Edges.letter(x, 1, Edges.READ, 2, 2, NONE, 0);
        due("again(2)", x.again(2), 2);
        due("about(3): more can be sent to it", x.about(3), 4);
    }

    private static void othersGetTheirs() {
        BallotHouse x = Edges.inState(Edges.IS_MADE);
        x.settle(4);
        for (int voter = 0; voter < 3; voter++) {
            x.silent(voter, true);
        }
        due("READ ANSWERS of SILENT VOTERS come", x.settle(100), 3);
        due("of(2, 0)", x.of(2, 0), Edges.IS_MOVING);
        for (int voter = 0; voter < 3; voter++) {
            x.silent(voter, false);
        }
        x.settle(3);
        for (int voter = 0; voter < 3; voter++) {
            x.silent(voter, true);
        }
        due("VOTE ANSWERS of SILENT VOTERS, COMPLETE and ACTIVE come", x.settle(100), 5);
        due("of(2, 0)", x.of(2, 0), Edges.IS_ACTIVE);
        x.ballot(7, 2, 2);
        due("a NEW comes", x.deliver(0), true);
    }

    private static void silentKeepsAll() {
        Edges.alike("silent(.., true)", () -> Edges.inState(Edges.IS_ACTIVE), x -> {
            for (int voter = 0; voter < 3; voter++) {
                x.silent(voter, true);
            }
        }, x -> { });
    }
}
