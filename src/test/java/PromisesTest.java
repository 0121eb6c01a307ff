// For each promise of the document: ordinary inputs, the edges it names, and wrong inputs.
public final class PromisesTest {
    private static final int NEW = 1, READ = 2, READ_ANSWER = 3, VOTE = 4, VOTE_ANSWER = 5, COMPLETE = 6, ACTIVE = 7;
    private static final int MADE = 0, READING = 1, MOVING = 2, ASKING = 3, IS_ACTIVE = 4;
    private static final int NONE = -1;
    private static final int[] WRONG = {-1, Integer.MIN_VALUE, Integer.MAX_VALUE, 1000};

    private static int wrong = 0;

    private static void due(String call, long got, long want) {
        if (got != want) {
            wrong++;
            System.out.println(call + " answered " + got + ", due is " + want);
        }
    }

    private static void due(String call, boolean got, boolean want) {
        due(call, got ? 1L : 0L, want ? 1L : 0L);
    }

    private static void letter(String call, BallotHouse x, int k, int... parts) {
        for (int what = 0; what < parts.length; what++) {
            due(call + ": air(" + k + ", " + what + ")", x.air(k, what), parts[what]);
        }
    }

    // A house whose ballot 1, of all its voters, is active and whose air is empty.
    private static BallotHouse active(int voters, int r, int w) {
        BallotHouse x = new BallotHouse(voters);
        x.ballot((1 << voters) - 1, r, w);
        x.settle(100);
        return x;
    }

    private static void fill(BallotHouse x) {
        for (int left = 400 - x.about(3); left > 0; left--) {
            x.twice(0);
        }
    }

    private static void empty(BallotHouse x) {
        for (int left = x.about(3); left > 0; left--) {
            x.lose(0);
        }
    }

    public static void main(String[] args) {
        newObject();
        ballotRefuses();
        ballotMakes();
        ballotInFullAir();
        propose();
        proposeInFullAir();
        againByState();
        againInFullAir();
        deliver();
        deliverInFullAir();
        settle();
        lose();
        twice();
        silent();
        promiseOfVoter();
        lateReadAndVote();
        voteAndValue();
        readingOfSeveral();
        readingFromBehind();
        firstAnswerCounts();
        answerIsAsItWas();
        foundIsByTheGreatest();
        zeroIsFound();
        movingWaitsForEach();
        completeIsRefused();
        completeAgain();
        lettersInOtherStates();
        ofBallot();
        answeredAndKnown();
        said();
        chosenByVotes();
        chosenIsTheLeast();
        isOne();
        air();
        about();
        System.out.println(wrong == 0 ? "all promises hold" : wrong + " answers are not as due");
        if (wrong != 0) {
            System.exit(1);
        }
    }

    private static void newObject() {
        int[] asked = {Integer.MIN_VALUE, -1, 0, 1, 2, 6, 7, 8, Integer.MAX_VALUE};
        int[] got = {1, 1, 1, 1, 2, 6, 7, 7, 7};
        for (int i = 0; i < asked.length; i++) {
            BallotHouse x = new BallotHouse(asked[i]);
            due("1 voters " + asked[i], x.about(0), got[i]);
            for (int what = 1; what <= 4; what++) {
                due("1 about " + what, x.about(what), 0);
            }
            for (int voter = 0; voter < got[i]; voter++) {
                due("1 promise", x.promise(voter), 0);
                for (int place = 0; place < 8; place++) {
                    due("1 vote", x.vote(voter, place), 0);
                    due("1 value", x.value(voter, place), 0);
                }
            }
            due("1 voter beyond", x.promise(got[i]), NONE);
        }
    }

    private static void ballotRefuses() {
        BallotHouse x = new BallotHouse(3);
        int[][] no = {
            {0, 1, 1}, {8, 1, 1}, {15, 2, 3}, {-1, 2, 2}, {Integer.MIN_VALUE, 1, 1}, {Integer.MAX_VALUE, 2, 2},
            {7, 0, 3}, {7, 4, 3}, {7, 3, 0}, {7, 3, 4}, {7, 1, 2}, {7, 2, 1}, {7, 1, 1}, {5, 1, 1}, {5, 3, 1}, {5, 1, 3},
            {7, -1, 3}, {7, 3, -1}, {7, Integer.MAX_VALUE, Integer.MAX_VALUE}, {7, Integer.MIN_VALUE, Integer.MIN_VALUE},
            {7, Integer.MAX_VALUE, 1}, {4, 2, 1}, {4, 1, 2}, {4, 0, 1}};
        for (int[] a : no) {
            due("2 ballot(" + a[0] + ", " + a[1] + ", " + a[2] + ")", x.ballot(a[0], a[1], a[2]), NONE);
        }
        due("2 none made", x.about(1), 0);
        due("2 none sent", x.about(3), 0);
    }

    private static void ballotMakes() {
        BallotHouse x = new BallotHouse(3);
        int[][] yes = {{7, 1, 3}, {7, 3, 1}, {7, 2, 2}, {7, 3, 3}, {5, 2, 1}, {4, 1, 1}};
        for (int i = 0; i < yes.length; i++) {
            due("2 makes", x.ballot(yes[i][0], yes[i][1], yes[i][2]), i + 1);
            letter("2 new", x, i, NEW, i + 1, NONE, NONE, 0);
        }
        for (int number = yes.length + 1; number <= 24; number++) {
            due("2 makes", x.ballot(1, 1, 1), number);
        }
        due("2 the 25th", x.ballot(1, 1, 1), NONE);
        due("2 24 at most", x.about(1), 24);
        due("2 24 letters", x.about(3), 24);
        due("2 the 24th is", x.of(24, 0), MADE);
        due("2 the 25th is not", x.of(25, 0), NONE);
    }

    private static void ballotInFullAir() {
        BallotHouse x = new BallotHouse(1);
        x.ballot(1, 1, 1);
        fill(x);
        due("2 made though its letter is lost", x.ballot(1, 1, 1), 2);
        due("2 lost", x.about(4), 1);
        due("2 refused loses nothing", x.ballot(0, 1, 1), NONE);
        due("2 lost still", x.about(4), 1);
        due("2 air stays", x.about(3), 400);
        x.settle(1000);
        due("2 asked for anew", x.again(2), 1);
        letter("2 anew", x, 0, NEW, 2, NONE, NONE, 0);
    }

    private static void propose() {
        BallotHouse x = new BallotHouse(4);
        x.ballot(11, 2, 2);
        for (int steps = 0; steps < 3; steps++) {
            due("3 not yet active", x.propose(1, 0, 5), false);
            due("3 delivered", x.deliver(0), true);
        }
        due("3 active", x.of(1, 0), IS_ACTIVE);
        for (int no : WRONG) {
            due("3 no such ballot", x.propose(no, 0, 5), false);
            due("3 no such place", x.propose(1, no, 5), false);
        }
        due("3 ballot 0", x.propose(0, 0, 5), false);
        due("3 ballot 2", x.propose(2, 0, 5), false);
        due("3 place 8", x.propose(1, 8, 5), false);
        due("3 nothing done", x.about(3), 0);
        due("3 nothing proposed", x.of(1, 7), 0);
        due("3 proposed", x.propose(1, 7, Long.MIN_VALUE), true);
        due("3 three votes", x.about(3), 3);
        letter("3", x, 0, VOTE, 1, 0, 7, 0);
        letter("3", x, 1, VOTE, 1, 1, 7, 0);
        letter("3", x, 2, VOTE, 1, 3, 7, 0);
        due("3 once", x.propose(1, 7, 6), false);
        due("3 same once", x.propose(1, 7, Long.MIN_VALUE), false);
        due("3 said stays", x.said(1, 7), Long.MIN_VALUE);
        due("3 zero is proposed", x.propose(1, 0, 0), true);
        due("3 zero once", x.propose(1, 0, 1), false);
        due("3 bits", x.of(1, 7), 129);
        x.settle(100);
        x.ballot(2, 1, 1);
        x.settle(100);
        due("3 found there", x.propose(2, 7, 1), false);
        due("3 zero found there", x.propose(2, 0, 1), false);
        due("3 nothing found there", x.propose(2, 1, 1), true);
        due("3 only to its members", x.about(3), 1);
        letter("3", x, 0, VOTE, 2, 1, 1, 0);
    }

    private static void proposeInFullAir() {
        BallotHouse x = active(3, 2, 2);
        x.propose(1, 0, 5);
        fill(x);
        x.lose(0);
        due("3 proposed in a full air", x.propose(1, 1, 6), true);
        due("3 two lost", x.about(4), 2);
        letter("3 the first has room", x, 399, VOTE, 1, 0, 1, 0);
        due("3 it stands proposed", x.of(1, 7), 3);
        due("3 it is said", x.said(1, 1), 6);
    }

    private static void againByState() {
        BallotHouse x = active(3, 2, 2);
        x.propose(1, 2, 9);
        x.propose(1, 4, 8);
        x.settle(100);
        x.propose(1, 5, 7);
        due("4 active, one unknown", x.again(1), 3);
        due("4 six votes", x.about(3), 6);
        letter("4", x, 3, VOTE, 1, 0, 5, 0);
        letter("4", x, 5, VOTE, 1, 2, 5, 0);
        empty(x);
        x.propose(1, 6, 6);
        x.deliver(1);
        x.deliver(2);
        empty(x);
        due("4 those that have not answered", x.again(1), 5);
        letter("4", x, 0, VOTE, 1, 0, 5, 0);
        letter("4", x, 2, VOTE, 1, 2, 5, 0);
        letter("4", x, 3, VOTE, 1, 0, 6, 0);
        letter("4", x, 4, VOTE, 1, 2, 6, 0);
        empty(x);
        x.propose(1, 7, 7);
        x.deliver(0);
        empty(x);
        due("4 also one that voted, its answer being lost", x.again(1), 8);
        letter("4", x, 5, VOTE, 1, 0, 7, 0);
        due("4 voted", x.vote(0, 7), 1);
        empty(x);

        due("4 made", x.ballot(6, 2, 2), 2);
        due("4 new", x.again(2), 1);
        due("4 two", x.about(3), 2);
        letter("4", x, 1, NEW, 2, NONE, NONE, 0);
        x.deliver(0);
        empty(x);
        due("4 reading", x.again(2), 3);
        letter("4", x, 0, READ, 2, 0, NONE, 0);
        letter("4", x, 2, READ, 2, 2, NONE, 0);
        x.deliver(1);
        due("4 answer on its way", x.again(2), 3);
        x.deliver(2);
        due("4 one counts", x.of(2, 5), 2);
        empty(x);
        due("4 two have not answered", x.again(2), 2);
        letter("4", x, 0, READ, 2, 0, NONE, 0);
        letter("4", x, 1, READ, 2, 2, NONE, 0);
        x.deliver(0);
        x.deliver(1);
        due("4 moving", x.of(2, 0), MOVING);
        due("4 found", x.of(2, 6), 4 + 16 + 64 + 128);
        empty(x);
        due("4 all its votes", x.again(2), 8);
        letter("4", x, 0, VOTE, 2, 1, 2, 0);
        letter("4", x, 1, VOTE, 2, 2, 2, 0);
        letter("4", x, 2, VOTE, 2, 1, 4, 0);
        letter("4", x, 7, VOTE, 2, 2, 7, 0);
        x.lose(7);
        x.settle(100);
        due("4 one is missing", x.again(2), 1);
        letter("4", x, 0, VOTE, 2, 2, 7, 0);
        x.settle(2);
        due("4 asking", x.of(2, 0), ASKING);
        x.lose(0);
        due("4 complete", x.again(2), 1);
        due("4 complete anew", x.again(2), 1);
        letter("4", x, 0, COMPLETE, 2, NONE, NONE, 0);
        letter("4", x, 1, COMPLETE, 2, NONE, NONE, 0);
        x.settle(100);
        due("4 active", x.of(2, 0), IS_ACTIVE);
        due("4 nothing to wait for", x.again(2), 0);
        due("4 nothing sent", x.about(3), 0);
        for (int no : WRONG) {
            due("4 no such", x.again(no), NONE);
        }
        due("4 ballot 0", x.again(0), NONE);
        due("4 ballot 3", x.again(3), NONE);
    }

    private static void againInFullAir() {
        BallotHouse x = active(3, 2, 2);
        x.propose(1, 0, 5);
        fill(x);
        due("4 also lost", x.again(1), 3);
        due("4 three lost", x.about(4), 3);
        x.lose(399);
        due("4 one has room", x.again(1), 3);
        due("4 five lost", x.about(4), 5);
        due("4 full", x.about(3), 400);
    }

    private static void deliver() {
        BallotHouse x = active(3, 2, 2);
        due("5 nothing there", x.deliver(0), false);
        x.propose(1, 0, 5);
        for (int no : WRONG) {
            due("5 no such", x.deliver(no), false);
        }
        due("5 none at 3", x.deliver(3), false);
        due("5 the middle", x.deliver(1), true);
        due("5 as many", x.about(3), 3);
        letter("5 the first stays", x, 0, VOTE, 1, 0, 0, 0);
        letter("5 the last moves up", x, 1, VOTE, 1, 2, 0, 0);
        letter("5 the answer is last", x, 2, VOTE_ANSWER, 1, 1, 0, 0);
        due("5 voted", x.vote(1, 0), 1);
        due("5 the other did not", x.vote(0, 0), 0);
        x.silent(0, true);
        due("5 silent", x.deliver(0), false);
        due("5 it lies there", x.about(3), 3);
        x.silent(1, true);
        due("5 a silent voter's answer comes", x.deliver(2), true);
        due("5 it is counted", x.answered(1, 0), 2);
        x.silent(0, false);
        due("5 no more silent", x.deliver(0), true);
        due("5 it voted", x.vote(0, 0), 1);
    }

    private static void deliverInFullAir() {
        BallotHouse x = active(1, 1, 1);
        x.propose(1, 0, 5);
        fill(x);
        due("5 delivered in a full air", x.deliver(0), true);
        due("5 its answer has its room", x.about(3), 400);
        due("5 nothing lost", x.about(4), 0);
        letter("5 the answer", x, 399, VOTE_ANSWER, 1, 0, 0, 0);

        BallotHouse y = active(3, 2, 2);
        y.ballot(7, 2, 2);
        fill(y);
        due("5 reads in a full air", y.deliver(0), true);
        due("5 two reads are lost", y.about(4), 2);
        letter("5 the first read", y, 399, READ, 2, 0, NONE, 0);
        due("5 reading all the same", y.of(2, 0), READING);
    }

    private static void settle() {
        BallotHouse x = new BallotHouse(3);
        due("6 nothing", x.settle(5), 0);
        due("6 below 0", x.settle(-1), NONE);
        due("6 far below 0", x.settle(Integer.MIN_VALUE), NONE);
        x.ballot(7, 2, 2);
        due("6 zero times", x.settle(0), 0);
        due("6 it lies there", x.about(3), 1);
        due("6 once", x.settle(1), 1);
        due("6 asking", x.of(1, 0), ASKING);
        due("6 all", x.settle(Integer.MAX_VALUE), 2);
        x.propose(1, 0, 5);
        x.silent(0, true);
        due("6 past the silent", x.settle(2), 2);
        letter("6 the silent's lies first", x, 0, VOTE, 1, 0, 0, 0);
        letter("6 from the first on", x, 1, VOTE_ANSWER, 1, 1, 0, 0);
        letter("6", x, 2, VOTE_ANSWER, 1, 2, 0, 0);
        due("6 the rest", x.settle(9), 2);
        due("6 only the silent's", x.about(3), 1);
        due("6 none can be", x.settle(9), 0);
        x.silent(0, false);
        due("6 now it can", x.settle(9), 2);
        due("6 all gone", x.about(3), 0);

        // Two proposals: after each letter the first is looked at anew, so place 0 goes ahead.
        BallotHouse y = active(2, 1, 2);
        y.propose(1, 0, 5);
        y.propose(1, 1, 6);
        y.silent(0, true);
        y.settle(1);
        y.silent(0, false);
        due("6 again from the first on", y.settle(1), 1);
        due("6 voter 0 of place 0 was the first", y.vote(0, 0), 1);
        due("6 and not of place 1", y.vote(0, 1), 0);
    }

    private static void lose() {
        BallotHouse x = active(3, 2, 2);
        due("7 nothing there", x.lose(0), false);
        x.propose(1, 0, 5);
        for (int no : WRONG) {
            due("7 no such", x.lose(no), false);
        }
        due("7 none at 3", x.lose(3), false);
        due("7 the middle", x.lose(1), true);
        letter("7", x, 0, VOTE, 1, 0, 0, 0);
        letter("7", x, 1, VOTE, 1, 2, 0, 0);
        due("7 two left", x.about(3), 2);
        due("7 not counted as for want of room", x.about(4), 0);
        x.silent(2, true);
        due("7 a silent voter's too", x.lose(1), true);
        due("7 the last", x.lose(0), true);
        due("7 none left", x.lose(0), false);
        due("7 nobody voted", x.vote(0, 0) + x.vote(1, 0) + x.vote(2, 0), 0);
    }

    private static void twice() {
        BallotHouse x = active(3, 2, 2);
        due("8 nothing there", x.twice(0), false);
        x.propose(1, 0, 5);
        x.settle(100);
        x.propose(1, 3, 6);
        x.ballot(7, 2, 2);
        for (int no : WRONG) {
            due("8 no such", x.twice(no), false);
        }
        due("8 none at 4", x.twice(4), false);
        due("8 behind all", x.twice(1), true);
        due("8 five", x.about(3), 5);
        letter("8 it stays", x, 1, VOTE, 1, 1, 3, 0);
        letter("8 its double", x, 4, VOTE, 1, 1, 3, 0);
        x.deliver(3);
        x.deliver(4);
        letter("8 a read answer", x, 6, READ_ANSWER, 2, 0, NONE, 1);
        due("8 its votes too", x.twice(6), true);
        letter("8 a read answer's double", x, 7, READ_ANSWER, 2, 0, NONE, 1);
        x.silent(1, true);
        due("8 for a silent voter", x.twice(1), true);
        fill(x);
        due("8 full", x.about(3), 400);
        due("8 not when there are 400", x.twice(0), false);
        due("8 nothing lost", x.about(4), 0);
        due("8 still 400", x.about(3), 400);
        x.lose(0);
        due("8 one more", x.twice(0), true);
    }

    private static void silent() {
        BallotHouse x = active(3, 2, 2);
        for (int no : WRONG) {
            due("9 no such", x.silent(no, true), false);
            due("9 no such", x.silent(no, false), false);
        }
        due("9 none at 3", x.silent(3, true), false);
        x.propose(1, 0, 5);
        x.settle(100);
        due("9 silent", x.silent(1, true), true);
        due("9 silent again", x.silent(1, true), true);
        due("9 it keeps its promise", x.promise(1), 1);
        due("9 it keeps its vote", x.vote(1, 0), 1);
        due("9 it keeps its value", x.value(1, 0), 5);
        x.ballot(7, 2, 2);
        x.settle(1);
        due("9 read not got", x.deliver(1), false);
        due("9 the others get theirs", x.deliver(0), true);
        due("9 speaks", x.silent(1, false), true);
        due("9 speaks again", x.silent(1, false), true);
        due("9 read got", x.deliver(0), true);
        due("9 promised", x.promise(1), 2);
    }

    private static void promiseOfVoter() {
        BallotHouse x = active(2, 1, 2);
        for (int no : WRONG) {
            due("10 no such", x.promise(no), NONE);
        }
        due("10 none at 2", x.promise(2), NONE);
        due("10 at first", x.promise(0), 0);
        x.propose(1, 0, 5);
        x.deliver(0);
        due("10 by a vote", x.promise(0), 1);
        due("10 of one voter", x.promise(1), 0);
        x.ballot(3, 1, 2);
        x.deliver(2);
        x.deliver(3);
        due("10 by a read", x.promise(1), 2);
        due("10 not by another's read", x.promise(0), 1);
        x.settle(100);
        due("10 by a read", x.promise(0), 2);
        due("10 by a read", x.promise(1), 2);
    }

    private static void lateReadAndVote() {
        BallotHouse x = active(1, 1, 1);
        x.ballot(1, 1, 1);
        x.ballot(1, 1, 1);
        x.deliver(1);
        x.deliver(1);
        due("10 promised 3", x.promise(0), 3);
        empty(x);
        x.again(2);
        x.deliver(0);
        due("10 a read of 2", x.air(0, 0), READ);
        x.twice(0);
        due("10 comes late", x.deliver(0), true);
        due("10 and is not answered", x.about(3), 1);
        due("10 promise stays", x.promise(0), 3);
        empty(x);
        x.propose(1, 0, 5);
        due("11 a late vote", x.deliver(0), true);
        due("11 is not answered", x.about(3), 0);
        due("11 is not cast", x.vote(0, 0), 0);
        due("11 promise stays", x.promise(0), 3);
        x.again(3);
        x.twice(0);
        x.deliver(0);
        due("10 a read of the promised ballot", x.deliver(0), true);
        due("10 is answered each time", x.about(3), 2);
        letter("10", x, 1, READ_ANSWER, 3, 0, NONE, 0);
    }

    private static void voteAndValue() {
        BallotHouse x = active(2, 1, 2);
        for (int no : WRONG) {
            due("11 no such voter", x.vote(no, 0), NONE);
            due("11 no such place", x.vote(0, no), NONE);
            due("12 no such voter", x.value(no, 0), 0);
            due("12 no such place", x.value(0, no), 0);
        }
        due("11 voter 2", x.vote(2, 0), NONE);
        due("11 place 8", x.vote(0, 8), NONE);
        for (int place = 0; place < 8; place++) {
            x.propose(1, place, place == 3 ? Long.MAX_VALUE : -place);
        }
        x.lose(1);
        due("11 none yet", x.vote(0, 0), 0);
        due("12 none yet", x.value(0, 3), 0);
        x.settle(100);
        for (int place = 0; place < 8; place++) {
            due("11 voted", x.vote(0, place), 1);
            due("12 value", x.value(0, place), place == 3 ? Long.MAX_VALUE : -place);
        }
        due("11 its letter was lost", x.vote(1, 0), 0);
        due("11 the others came", x.vote(1, 1), 1);
        due("12 its letter was lost", x.value(1, 0), 0);
        due("12 the others came", x.value(1, 3), Long.MAX_VALUE);
        due("12 voter 2", x.value(2, 3), 0);
        x.again(1);
        x.twice(0);
        due("11 voted late", x.deliver(0), true);
        due("11 voted so before, answers again", x.deliver(0), true);
        due("11 two answers", x.about(3), 2);
        letter("11", x, 0, VOTE_ANSWER, 1, 1, 0, 0);
        letter("11", x, 1, VOTE_ANSWER, 1, 1, 0, 0);
        x.settle(100);
        x.ballot(1, 1, 1);
        x.settle(100);
        due("11 by the next ballot", x.vote(0, 7), 2);
        due("12 the same value", x.value(0, 7), -7);
        due("11 not a member", x.vote(1, 7), 1);
    }

    // Ballot 3 reads the members of 1 and 2, and waits for a read quorum of each.
    private static void readingOfSeveral() {
        BallotHouse x = new BallotHouse(5);
        x.ballot(3, 1, 2);
        x.ballot(28, 2, 2);
        x.ballot(1, 1, 1);
        due("5 new of 3", x.deliver(2), true);
        due("5 reading", x.of(3, 0), READING);
        due("5 five reads", x.about(3), 7);
        for (int voter = 0; voter < 5; voter++) {
            letter("5", x, voter + 2, READ, 3, voter, NONE, 0);
        }
        x.lose(0);
        x.lose(0);
        x.silent(1, true);
        x.silent(3, true);
        x.silent(4, true);
        due("5 two can answer", x.settle(100), 4);
        due("5 only one of ballot 2 answered", x.of(3, 0), READING);
        due("5 bits", x.of(3, 5), 5);
        x.silent(4, false);
        due("5 one more", x.settle(2), 2);
        due("5 enough of each", x.of(3, 0), ASKING);
        due("5 bits", x.of(3, 5), 21);
        x.silent(1, false);
        x.settle(100);
        due("5 what comes later does not count", x.of(3, 5), 21);
        due("5 it is promised all the same", x.promise(1), 3);
        due("5 active", x.of(3, 0), IS_ACTIVE);
    }

    // Ballot 3 is made when 2 is complete, so that nobody is asked for ballot 1.
    private static void readingFromBehind() {
        BallotHouse x = new BallotHouse(3);
        x.ballot(1, 1, 1);
        x.settle(100);
        x.ballot(2, 1, 1);
        due("13 behind", x.of(2, 4), 1);
        x.settle(100);
        due("20 complete", x.about(2), 2);
        x.ballot(4, 1, 1);
        due("13 behind", x.of(3, 4), 2);
        x.ballot(4, 1, 1);
        due("13 behind", x.of(4, 4), 2);
        x.deliver(0);
        due("4 only voter 1", x.again(3), 1);
        letter("4", x, 1, READ, 3, 1, NONE, 0);
        due("5 new of 4", x.deliver(0), true);
        due("5 voters 1 and 2", x.about(3), 4);
        letter("5", x, 2, READ, 4, 1, NONE, 0);
        letter("5", x, 3, READ, 4, 2, NONE, 0);
        x.settle(100);
        due("20 the first is complete", x.about(2), 3);
        due("5 the other has another behind", x.of(4, 0), ASKING);
        due("10 nobody asked voter 0 for more", x.promise(0), 2);
    }

    private static void firstAnswerCounts() {
        BallotHouse x = active(3, 2, 2);
        x.propose(1, 0, 5);
        x.ballot(7, 2, 2);
        x.deliver(3);
        x.twice(3);
        due("5 a read before the vote", x.deliver(3), true);
        letter("5", x, 6, READ_ANSWER, 2, 0, NONE, 0);
        x.twice(6);
        due("5 the answer", x.deliver(6), true);
        due("5 the same again", x.deliver(6), true);
        due("13 counts once", x.of(2, 5), 1);
        due("5 still reading", x.of(2, 0), READING);
        due("13 nothing found", x.of(2, 6), 0);

        BallotHouse y = active(3, 3, 1);
        y.propose(1, 0, 5);
        y.ballot(7, 2, 2);
        y.deliver(3);
        y.again(2);
        y.deliver(3);
        y.deliver(8);
        due("13 counted", y.of(2, 5), 1);
        due("13 nothing found", y.of(2, 6), 0);
    }

    // The votes in an answer are those of the moment in which it was sent, not in which it comes.
    private static void answerIsAsItWas() {
        BallotHouse x = new BallotHouse(2);
        x.ballot(3, 1, 2);
        x.settle(100);
        x.ballot(3, 1, 2);
        x.deliver(0);
        x.settle(100);
        due("13 active", x.of(2, 0), IS_ACTIVE);
        x.propose(2, 4, 44);
        x.ballot(3, 2, 2);
        x.silent(1, true);
        x.deliver(2);
        due("5 a vote", x.deliver(0), true);
        due("5 a read of 3", x.air(1, 0), READ);
        due("5 a read of 3 by voter 0", x.deliver(1), true);
        int last = x.about(3) - 1;
        letter("19 the vote is in it", x, last, READ_ANSWER, 3, 0, NONE, 16);
        x.lose(last);

        BallotHouse y = new BallotHouse(1);
        y.ballot(1, 1, 1);
        y.ballot(1, 1, 1);
        y.deliver(1);
        y.deliver(1);
        letter("19 empty", y, 1, READ_ANSWER, 2, 0, NONE, 0);
        y.twice(1);
        y.deliver(1);
        due("13 asking", y.of(2, 0), ASKING);
        y.deliver(2);
        y.deliver(2);
        due("13 active", y.of(2, 0), IS_ACTIVE);
        y.propose(2, 6, 66);
        y.deliver(2);
        due("11 voted", y.vote(0, 6), 2);
        letter("19 empty still", y, 1, READ_ANSWER, 2, 0, NONE, 0);
    }

    private static void foundIsByTheGreatest() {
        BallotHouse x = active(3, 2, 2);
        x.propose(1, 0, 10);
        x.deliver(0);
        empty(x);
        x.ballot(7, 2, 2);
        x.deliver(0);
        x.lose(0);
        x.settle(100);
        due("3 nothing found", x.propose(2, 0, 20), true);
        x.deliver(1);
        empty(x);
        // Voter 0 has 10 by ballot 1, voter 1 has 20 by ballot 2.
        for (int first = 0; first < 2; first++) {
            int number = x.ballot(7, 2, 2);
            x.deliver(0);
            x.lose(2);
            due("5 the one", x.deliver(first), true);
            due("5 its answer", x.deliver(1), true);
            due("15 found so far", x.said(number, 0), first == 0 ? 10 : 20);
            due("13 found so far", x.of(number, 6), 1);
            due("13 reading", x.of(number, 0), READING);
            x.deliver(0);
            due("5 the other's answer", x.deliver(0), true);
            due("13 moving", x.of(number, 0), MOVING);
            due("15 by the greatest", x.said(number, 0), 20);
            empty(x);
        }
    }

    private static void zeroIsFound() {
        BallotHouse x = active(1, 1, 1);
        x.propose(1, 5, 0);
        x.settle(100);
        due("17 zero is chosen", x.chosenValue(5), 0);
        due("16 zero is chosen", x.chosen(5), 1);
        x.ballot(1, 1, 1);
        due("5 settled", x.settle(100), 7);
        due("13 zero was found", x.of(2, 6), 32);
        due("11 zero was moved", x.vote(0, 5), 2);
    }

    private static void movingWaitsForEach() {
        BallotHouse x = active(2, 1, 2);
        x.propose(1, 1, 11);
        x.propose(1, 6, 66);
        x.settle(100);
        x.ballot(3, 1, 2);
        due("5 to moving", x.settle(3), 3);
        due("5 still reading", x.of(2, 0), READING);
        due("5 the first answer is enough", x.settle(1), 1);
        due("5 moving", x.of(2, 0), MOVING);
        letter("5 an answer of the other", x, 0, READ_ANSWER, 2, 1, NONE, 66);
        letter("5", x, 1, VOTE, 2, 0, 1, 0);
        letter("5", x, 2, VOTE, 2, 1, 1, 0);
        letter("5", x, 3, VOTE, 2, 0, 6, 0);
        letter("5", x, 4, VOTE, 2, 1, 6, 0);
        due("5 five letters", x.about(3), 5);
        due("3 not while moving", x.propose(2, 0, 1), false);
        due("5 all votes", x.settle(5), 5);
        due("13 other answer does not count", x.of(2, 5), 1);
        due("5 place 1", x.settle(2), 2);
        due("13 knows place 1", x.of(2, 8), 2);
        due("5 place 6 is missing", x.of(2, 0), MOVING);
        due("5 one answer is not enough", x.settle(1), 1);
        due("5 still moving", x.of(2, 0), MOVING);
        due("5 the last", x.settle(1), 1);
        due("5 asking", x.of(2, 0), ASKING);
        letter("5", x, 0, COMPLETE, 2, NONE, NONE, 0);
        due("3 not while asking", x.propose(2, 0, 1), false);
        due("13 knows both", x.of(2, 8), 66);
        due("20 not complete", x.about(2), 1);
        x.settle(1);
        due("20 complete", x.about(2), 2);
        due("13 asking until it hears", x.of(2, 0), ASKING);
        letter("5", x, 0, ACTIVE, 2, NONE, NONE, 0);
        x.settle(1);
        due("13 active", x.of(2, 0), IS_ACTIVE);
    }

    private static void completeIsRefused() {
        BallotHouse x = new BallotHouse(1);
        x.ballot(1, 1, 1);
        x.ballot(1, 1, 1);
        x.ballot(1, 1, 1);
        due("5 new of 2", x.deliver(1), true);
        x.lose(0);
        x.lose(0);
        x.settle(100);
        due("20 complete", x.about(2), 2);
        due("13 active", x.of(2, 0), IS_ACTIVE);
        x.again(3);
        x.settle(100);
        due("13 3 asks in vain", x.of(3, 0), ASKING);
        due("20 complete stays", x.about(2), 2);
        x.again(1);
        due("5 new and complete", x.settle(100), 2);
        due("13 1 asks in vain", x.of(1, 0), ASKING);
        due("20 complete stays", x.about(2), 2);
        due("2 after them", x.ballot(1, 1, 1), 4);
        due("13 behind", x.of(4, 4), 2);
        x.settle(100);
        due("20 complete", x.about(2), 4);
    }

    // A COMPLETE that comes twice is answered twice; once another is complete, no more.
    private static void completeAgain() {
        BallotHouse x = new BallotHouse(1);
        x.ballot(1, 1, 1);
        x.deliver(0);
        x.again(1);
        x.again(1);
        due("5 complete", x.deliver(0), true);
        due("5 complete already", x.deliver(0), true);
        due("5 two answers", x.about(3), 3);
        letter("5", x, 1, ACTIVE, 1, NONE, NONE, 0);
        letter("5", x, 2, ACTIVE, 1, NONE, NONE, 0);
        x.deliver(1);
        x.deliver(1);
        due("13 active", x.of(1, 0), IS_ACTIVE);
        x.ballot(1, 1, 1);
        for (int step = 0; step < 5; step++) {
            due("5 step", x.deliver(1), true);
        }
        due("13 active", x.of(2, 0), IS_ACTIVE);
        due("5 an old complete", x.deliver(0), true);
        due("5 is not answered", x.about(3), 0);
        due("20 complete stays", x.about(2), 2);
    }

    private static void lettersInOtherStates() {
        BallotHouse x = active(2, 1, 2);
        x.propose(1, 0, 5);
        x.settle(100);
        x.ballot(3, 1, 2);
        x.again(2);
        x.again(2);
        due("5 new", x.deliver(0), true);
        due("5 reading", x.of(2, 0), READING);
        due("5 new while reading", x.deliver(0), true);
        due("5 does nothing", x.about(3), 3);
        due("5 read", x.deliver(1), true);
        x.twice(2);
        x.twice(2);
        due("5 answer", x.deliver(2), true);
        due("5 moving", x.of(2, 0), MOVING);
        due("5 six letters", x.about(3), 6);
        due("5 new while moving", x.deliver(0), true);
        due("5 does nothing", x.of(2, 0), MOVING);
        due("5 five letters", x.about(3), 5);
        x.silent(1, true);
        due("5 read answers while moving", x.settle(4), 4);
        due("13 count no more", x.of(2, 5), 1);
        due("13 still moving", x.of(2, 0), MOVING);
        x.silent(1, false);
        x.settle(100);
        due("13 active", x.of(2, 0), IS_ACTIVE);
        due("14 answers", x.answered(2, 0), 3);

        // Vote answers count in ASKING too; an ACTIVE for one that is active does nothing.
        BallotHouse y = active(2, 2, 1);
        y.propose(1, 0, 5);
        y.settle(100);
        y.ballot(3, 2, 1);
        y.settle(5);
        due("13 moving", y.of(2, 0), MOVING);
        y.settle(2);
        due("5 both voted", y.vote(0, 0) + y.vote(1, 0), 4);
        y.settle(1);
        due("13 asking with one answer", y.of(2, 0), ASKING);
        due("14 one", y.answered(2, 0), 1);
        due("19 the other's answer", y.air(0, 0), VOTE_ANSWER);
        y.settle(1);
        due("14 both", y.answered(2, 0), 3);
        due("5 asked once", y.about(3), 1);
        y.settle(1);
        y.twice(0);
        y.settle(2);
        due("13 active", y.of(2, 0), IS_ACTIVE);
    }

    private static void ofBallot() {
        BallotHouse x = active(4, 2, 3);
        x.propose(1, 1, 5);
        x.settle(100);
        x.ballot(14, 1, 3);
        x.settle(100);
        x.propose(2, 0, 6);
        x.settle(100);
        x.propose(2, 7, 7);
        int[] want = {IS_ACTIVE, 14, 1, 3, 1, 3, 2, 129, 3};
        for (int what = 0; what < want.length; what++) {
            due("13 of(2, " + what + ")", x.of(2, what), want[what]);
        }
        int[] first = {IS_ACTIVE, 15, 2, 3, 0, 0, 0, 2, 2};
        for (int what = 0; what < first.length; what++) {
            due("13 of(1, " + what + ")", x.of(1, what), first[what]);
        }
        due("13 what 9", x.of(1, 9), NONE);
        for (int no : WRONG) {
            due("13 no such ballot", x.of(no, 0), NONE);
            due("13 no such what", x.of(1, no), NONE);
        }
        due("13 ballot 0", x.of(0, 0), NONE);
        due("13 ballot 3", x.of(3, 0), NONE);
    }

    private static void answeredAndKnown() {
        BallotHouse x = active(4, 2, 3);
        x.propose(1, 3, 5);
        due("14 none yet", x.answered(1, 3), 0);
        due("14 another place", x.answered(1, 0), 0);
        x.deliver(3);
        due("14 on its way", x.answered(1, 3), 0);
        x.deliver(3);
        due("14 voter 3", x.answered(1, 3), 8);
        x.settle(3);
        due("16 chosen", x.chosen(3), 1);
        due("13 not known", x.of(1, 8), 0);
        x.settle(1);
        due("13 two of three", x.of(1, 8), 0);
        due("14 two", x.answered(1, 3), 9);
        x.settle(1);
        due("13 known", x.of(1, 8), 8);
        x.settle(1);
        due("14 all", x.answered(1, 3), 15);
        for (int no : WRONG) {
            due("14 no such ballot", x.answered(no, 0), NONE);
            due("14 no such place", x.answered(1, no), NONE);
        }
        due("14 ballot 0", x.answered(0, 0), NONE);
        due("14 ballot 2", x.answered(2, 0), NONE);
        due("14 place 8", x.answered(1, 8), NONE);
    }

    private static void said() {
        BallotHouse x = active(2, 1, 2);
        due("15 nothing", x.said(1, 0), 0);
        x.propose(1, 0, Long.MIN_VALUE);
        due("15 proposed", x.said(1, 0), Long.MIN_VALUE);
        due("15 elsewhere nothing", x.said(1, 1), 0);
        x.settle(100);
        x.ballot(1, 1, 1);
        due("15 not yet found", x.said(2, 0), 0);
        x.settle(100);
        due("15 found", x.said(2, 0), Long.MIN_VALUE);
        for (int no : WRONG) {
            due("15 no such ballot", x.said(no, 0), 0);
            due("15 no such place", x.said(1, no), 0);
        }
        due("15 ballot 0", x.said(0, 0), 0);
        due("15 ballot 3", x.said(3, 0), 0);
        due("15 place 8", x.said(1, 8), 0);
    }

    // A value is chosen by votes; that their answers are lost, or the voters vote anew, is one.
    private static void chosenByVotes() {
        BallotHouse x = active(3, 2, 2);
        for (int no : WRONG) {
            due("16 no such place", x.chosen(no), NONE);
            due("17 no such place", x.chosenValue(no), 0);
        }
        due("16 place 8", x.chosen(8), NONE);
        due("17 place 8", x.chosenValue(8), 0);
        due("16 none", x.chosen(0), NONE);
        x.propose(1, 0, 5);
        x.deliver(0);
        x.lose(2);
        due("16 one vote", x.chosen(0), NONE);
        due("17 one vote", x.chosenValue(0), 0);
        x.twice(0);
        x.deliver(0);
        x.deliver(1);
        due("16 two votes", x.chosen(0), 1);
        due("17 two votes", x.chosenValue(0), 5);
        due("16 elsewhere none", x.chosen(1), NONE);
        empty(x);
        due("13 not known", x.of(1, 8), 0);
        x.ballot(6, 2, 1);
        x.settle(100);
        due("11 voted anew", x.vote(1, 0), 2);
        due("16 have ever voted", x.chosen(0), 1);
        due("17 have ever voted", x.chosenValue(0), 5);

        // The same voter's vote twice over is one vote.
        BallotHouse y = active(2, 1, 2);
        y.propose(1, 0, 5);
        y.twice(0);
        y.deliver(0);
        y.deliver(1);
        due("16 one voter only", y.chosen(0), NONE);
    }

    private static void chosenIsTheLeast() {
        BallotHouse x = active(3, 2, 2);
        x.propose(1, 0, 5);
        x.deliver(1);
        empty(x);
        x.ballot(7, 2, 2);
        x.settle(100);
        due("16 by the second", x.chosen(0), 2);
        due("17 by the second", x.chosenValue(0), 5);
        x.ballot(3, 2, 2);
        x.settle(100);
        due("11 by the third", x.vote(0, 0), 3);
        due("16 the least", x.chosen(0), 2);
    }

    private static void isOne() {
        BallotHouse x = active(3, 2, 2);
        for (int no : WRONG) {
            due("18 no such place", x.isOne(no), true);
        }
        due("18 place 8", x.isOne(8), true);
        due("18 none", x.isOne(0), true);
        x.propose(1, 0, 5);
        x.propose(1, 1, 6);
        x.settle(100);
        due("18 one", x.isOne(0), true);
        x.ballot(6, 1, 2);
        x.settle(100);
        due("16 by both", x.chosen(0), 1);
        due("18 the same", x.isOne(0), true);
        due("18 the same", x.isOne(1), true);
    }

    private static void air() {
        BallotHouse x = active(3, 2, 2);
        due("19 empty", x.air(0, 0), NONE);
        x.propose(1, 0, 5);
        x.propose(1, 7, 5);
        letter("19", x, 5, VOTE, 1, 2, 7, 0);
        due("19 none at 6", x.air(6, 0), NONE);
        due("19 what 5", x.air(0, 5), NONE);
        for (int no : WRONG) {
            due("19 no such letter", x.air(no, 0), NONE);
            due("19 no such what", x.air(0, no), NONE);
        }
        x.settle(6);
        letter("19", x, 5, VOTE_ANSWER, 1, 2, 7, 0);
        x.settle(100);
        x.ballot(7, 2, 2);
        letter("19", x, 0, NEW, 2, NONE, NONE, 0);
        x.settle(1);
        letter("19", x, 2, READ, 2, 2, NONE, 0);
        x.settle(3);
        letter("19", x, 2, READ_ANSWER, 2, 2, NONE, 129);
        x.settle(15);
        due("19 what is left", x.about(3), 1);
        letter("19", x, 0, COMPLETE, 2, NONE, NONE, 0);
        x.settle(1);
        letter("19", x, 0, ACTIVE, 2, NONE, NONE, 0);
    }

    private static void about() {
        BallotHouse x = active(3, 2, 2);
        x.ballot(1, 1, 1);
        fill(x);
        x.ballot(2, 1, 1);
        x.again(2);
        int[] want = {3, 3, 1, 400, 2};
        for (int what = 0; what < want.length; what++) {
            due("20 about(" + what + ")", x.about(what), want[what]);
        }
        due("20 what 5", x.about(5), NONE);
        for (int no : WRONG) {
            due("20 no such what", x.about(no), NONE);
        }
        due("20 the constant", BallotHouse.NONE, -1);
    }
}
