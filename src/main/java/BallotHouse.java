/**
 * Ballots by which one value at most is chosen in each of eight places, though each ballot may
 * have other voters than those before. The document's numbered promises say what each call does.
 */
public final class BallotHouse {
    /** There is none. */
    public static final int NONE = -1;

    private static final int MOST_VOTERS = 7;
    private static final int MOST_BALLOTS = 24;
    private static final int PLACES = 8;
    private static final int ROOM = 400;

    private static final int STATE_MADE = 0;
    private static final int STATE_READING = 1;
    private static final int STATE_MOVING = 2;
    private static final int STATE_ASKING = 3;
    private static final int STATE_ACTIVE = 4;

    private static final int LETTER_NEW = 1;
    private static final int LETTER_READ = 2;
    private static final int LETTER_READ_ANSWER = 3;
    private static final int LETTER_VOTE = 4;
    private static final int LETTER_VOTE_ANSWER = 5;
    private static final int LETTER_COMPLETE = 6;
    private static final int LETTER_ACTIVE = 7;

    private final int voters;
    private final int[] promises;
    // A voter's votes in all places, packed as Votes says.
    private final long[] votes;
    private int silentVoters;
    private final Ballot[] ballots;
    private int made;
    private int complete;
    private final Air letters;

    public BallotHouse(int voters) {
        this.voters = Math.max(1, Math.min(MOST_VOTERS, voters));
        this.promises = new int[this.voters];
        this.votes = new long[this.voters];
        this.ballots = new Ballot[MOST_BALLOTS];
        this.letters = new Air();
    }

    public int ballot(int members, int r, int w) {
        if (made >= MOST_BALLOTS || !canBe(members, r, w)) {
            return NONE;
        }
        int number = made + 1;
        int first = Math.max(1, complete);
        Ballot b = new Ballot(number, members, r, w, complete, membersFrom(first));
        ballots[made] = b;
        made = number;
        letters.send(LETTER_NEW, number, NONE, NONE, 0L);
        return number;
    }

    public boolean propose(int ballot, int place, long value) {
        Ballot b = find(ballot);
        if (b == null || !isPlace(place) || b.state != STATE_ACTIVE || b.hasWord(place)) {
            return false;
        }
        b.proposed |= 1 << place;
        b.words[place] = value;
        sendToEach(b.members, LETTER_VOTE, b, place);
        return true;
    }

    public int again(int ballot) {
        Ballot b = find(ballot);
        if (b == null) {
            return NONE;
        }
        switch (b.state) {
            case STATE_MADE:
                letters.send(LETTER_NEW, b.number, NONE, NONE, 0L);
                return 1;
            case STATE_READING:
                return sendToEach(b.readers & ~b.readAnswers, LETTER_READ, b, NONE);
            case STATE_ASKING:
                letters.send(LETTER_COMPLETE, b.number, NONE, NONE, 0L);
                return 1;
            default:
                return sendMissingVotes(b);
        }
    }

    public boolean deliver(int k) {
        if (!letters.has(k) || isForSilent(k)) {
            return false;
        }
        handOver(k);
        return true;
    }

    public int settle(int n) {
        if (n < 0) {
            return NONE;
        }
        int delivered = 0;
        while (delivered < n) {
            int k = firstDeliverable();
            if (k == NONE) {
                return delivered;
            }
            handOver(k);
            delivered++;
        }
        return delivered;
    }

    public boolean lose(int k) {
        if (!letters.has(k)) {
            return false;
        }
        letters.drop(k);
        return true;
    }

    public boolean twice(int k) {
        if (!letters.has(k) || letters.size >= ROOM) {
            return false;
        }
        letters.repeat(k);
        return true;
    }

    public boolean silent(int voter, boolean is) {
        if (!isVoter(voter)) {
            return false;
        }
        int bit = 1 << voter;
        silentVoters = is ? (silentVoters | bit) : (silentVoters & ~bit);
        return true;
    }

    public int promise(int voter) {
        return isVoter(voter) ? promises[voter] : NONE;
    }

    public int vote(int voter, int place) {
        return isVoter(voter) && isPlace(place) ? Votes.at(votes[voter], place) : NONE;
    }

    public long value(int voter, int place) {
        if (!isVoter(voter) || !isPlace(place)) {
            return 0L;
        }
        Ballot b = find(Votes.at(votes[voter], place));
        return b == null ? 0L : b.words[place];
    }

    public int of(int ballot, int what) {
        Ballot b = find(ballot);
        if (b == null) {
            return NONE;
        }
        switch (what) {
            case 0: return b.state;
            case 1: return b.members;
            case 2: return b.r;
            case 3: return b.w;
            case 4: return b.behind;
            case 5: return b.readAnswers;
            case 6: return b.found;
            case 7: return b.proposed;
            case 8: return b.knownPlaces();
            default: return NONE;
        }
    }

    public int answered(int ballot, int place) {
        Ballot b = find(ballot);
        return b != null && isPlace(place) ? b.voteAnswers[place] : NONE;
    }

    public long said(int ballot, int place) {
        Ballot b = find(ballot);
        return b != null && isPlace(place) ? b.words[place] : 0L;
    }

    public int chosen(int place) {
        Ballot b = firstThatChose(place);
        return b == null ? NONE : b.number;
    }

    public long chosenValue(int place) {
        Ballot b = firstThatChose(place);
        return b == null || !isPlace(place) ? 0L : b.words[place];
    }

    public boolean isOne(int place) {
        Ballot first = firstThatChose(place);
        if (first == null || !isPlace(place)) {
            return true;
        }
        for (int number = first.number + 1; number <= made; number++) {
            Ballot b = find(number);
            if (b != null && b.hasChosen(place) && b.words[place] != first.words[place]) {
                return false;
            }
        }
        return true;
    }

    public int air(int k, int what) {
        if (!letters.has(k)) {
            return NONE;
        }
        switch (what) {
            case 0: return letters.kind[k];
            case 1: return letters.ballot[k];
            case 2: return letters.voter[k];
            case 3: return letters.place[k];
            case 4: return Votes.places(letters.votes[k]);
            default: return NONE;
        }
    }

    public int about(int what) {
        switch (what) {
            case 0: return voters;
            case 1: return made;
            case 2: return complete;
            case 3: return letters.size;
            case 4: return letters.lost;
            default: return NONE;
        }
    }

    private boolean isVoter(int voter) {
        return voter >= 0 && voter < voters;
    }

    private static boolean isPlace(int place) {
        return place >= 0 && place < PLACES;
    }

    private Ballot find(int number) {
        return number >= 1 && number <= made && number <= MOST_BALLOTS ? ballots[number - 1] : null;
    }

    private boolean canBe(int members, int r, int w) {
        if (members < 1 || members >= 1 << voters) {
            return false;
        }
        int many = Integer.bitCount(members);
        return r >= 1 && r <= many && w >= 1 && w <= many && r + w > many;
    }

    private int membersFrom(int first) {
        int all = 0;
        for (int number = first; number <= made; number++) {
            Ballot b = find(number);
            if (b != null) {
                all |= b.members;
            }
        }
        return all;
    }

    private Ballot firstThatChose(int place) {
        if (!isPlace(place)) {
            return null;
        }
        for (int number = 1; number <= made; number++) {
            Ballot b = find(number);
            if (b != null && b.hasChosen(place)) {
                return b;
            }
        }
        return null;
    }

    private int sendToEach(int receivers, int kind, Ballot b, int place) {
        for (int voter = 0; voter < voters; voter++) {
            if ((receivers & (1 << voter)) != 0) {
                letters.send(kind, b.number, voter, place, 0L);
            }
        }
        return Integer.bitCount(receivers);
    }

    private int sendMissingVotes(Ballot b) {
        int sent = 0;
        for (int place = 0; place < PLACES; place++) {
            if (b.hasWord(place) && !b.knows(place)) {
                sent += sendToEach(b.members & ~b.voteAnswers[place], LETTER_VOTE, b, place);
            }
        }
        return sent;
    }

    // Only a READ and a VOTE go to a voter; in an answer the voter is the one that sent it.
    private boolean isForSilent(int k) {
        int kind = letters.kind[k];
        boolean isForVoter = kind == LETTER_READ || kind == LETTER_VOTE;
        return isForVoter && (silentVoters & (1 << letters.voter[k])) != 0;
    }

    private int firstDeliverable() {
        for (int k = 0; k < letters.size; k++) {
            if (!isForSilent(k)) {
                return k;
            }
        }
        return NONE;
    }

    private void handOver(int k) {
        int kind = letters.kind[k];
        int voter = letters.voter[k];
        int place = letters.place[k];
        long told = letters.votes[k];
        Ballot b = find(letters.ballot[k]);
        // It leaves before it is read, so that in a full air its answer has its room.
        letters.drop(k);
        if (b == null) {
            return;
        }
        switch (kind) {
            case LETTER_NEW: newComes(b); break;
            case LETTER_READ: readComes(b, voter); break;
            case LETTER_READ_ANSWER: readAnswerComes(b, voter, told); break;
            case LETTER_VOTE: voteComes(b, voter, place); break;
            case LETTER_VOTE_ANSWER: voteAnswerComes(b, voter, place); break;
            case LETTER_COMPLETE: completeComes(b); break;
            case LETTER_ACTIVE: activeComes(b); break;
            default: break;
        }
    }

    private void newComes(Ballot b) {
        if (b.state == STATE_MADE) {
            b.state = STATE_READING;
            sendToEach(b.readers, LETTER_READ, b, NONE);
            goOn(b);
        }
    }

    private void readComes(Ballot b, int voter) {
        if (isVoter(voter) && promises[voter] <= b.number) {
            promises[voter] = b.number;
            letters.send(LETTER_READ_ANSWER, b.number, voter, NONE, votes[voter]);
        }
    }

    private void readAnswerComes(Ballot b, int voter, long told) {
        int bit = 1 << voter;
        if (b.state == STATE_READING && (b.readAnswers & bit) == 0) {
            b.readAnswers |= bit;
            takeFound(b, told);
            goOn(b);
        }
    }

    // A ballot has one word in a place, so the number in a vote also tells the vote's value.
    private void takeFound(Ballot b, long told) {
        for (int place = 0; place < PLACES; place++) {
            Ballot by = find(Votes.at(told, place));
            if (by != null && by.number > b.foundBy[place]) {
                b.found |= 1 << place;
                b.foundBy[place] = by.number;
                b.words[place] = by.words[place];
            }
        }
    }

    private void voteComes(Ballot b, int voter, int place) {
        if (isVoter(voter) && isPlace(place) && promises[voter] <= b.number) {
            promises[voter] = b.number;
            votes[voter] = Votes.with(votes[voter], place, b.number);
            b.everVoted[place] |= 1 << voter;
            letters.send(LETTER_VOTE_ANSWER, b.number, voter, place, 0L);
        }
    }

    private void voteAnswerComes(Ballot b, int voter, int place) {
        if (isPlace(place) && b.state >= STATE_MOVING) {
            b.voteAnswers[place] |= 1 << voter;
            goOn(b);
        }
    }

    private void completeComes(Ballot b) {
        if (complete == b.behind || complete == b.number) {
            complete = b.number;
            letters.send(LETTER_ACTIVE, b.number, NONE, NONE, 0L);
        }
    }

    private void activeComes(Ballot b) {
        if (b.state == STATE_ASKING) {
            b.state = STATE_ACTIVE;
        }
    }

    // A state that has nothing to wait for is over at once, so each is looked at in its turn.
    private void goOn(Ballot b) {
        if (b.state == STATE_READING && isReadingOver(b)) {
            b.state = STATE_MOVING;
            sendMissingVotes(b);
        }
        if (b.state == STATE_MOVING && (b.found & ~b.knownPlaces()) == 0) {
            b.state = STATE_ASKING;
            letters.send(LETTER_COMPLETE, b.number, NONE, NONE, 0L);
        }
    }

    private boolean isReadingOver(Ballot b) {
        for (int number = Math.max(1, b.behind); number < b.number; number++) {
            Ballot ahead = find(number);
            if (ahead != null && Integer.bitCount(ahead.members & b.readAnswers) < ahead.r) {
                return false;
            }
        }
        return true;
    }

    /** The ballots of one voter's votes, a byte for each place: 0 where there is none. */
    private static final class Votes {
        private static final int BITS = 8;
        private static final long MASK = 255L;

        static int at(long packed, int place) {
            return (int) ((packed >>> (place * BITS)) & MASK);
        }

        static long with(long packed, int place, int number) {
            int shift = place * BITS;
            return (packed & ~(MASK << shift)) | ((long) number << shift);
        }

        static int places(long packed) {
            int bits = 0;
            for (int place = 0; place < PLACES; place++) {
                if (at(packed, place) != 0) {
                    bits |= 1 << place;
                }
            }
            return bits;
        }
    }

    /** A ballot as the master made it, and what its leader has come to since. */
    private static final class Ballot {
        final int number;
        final int members;
        final int r;
        final int w;
        final int behind;
        final int readers;
        int state = STATE_MADE;
        int readAnswers;
        int found;
        int proposed;
        final int[] foundBy = new int[PLACES];
        // What was found, or else proposed, in each place: all that this ballot can be voted for.
        final long[] words = new long[PLACES];
        final int[] voteAnswers = new int[PLACES];
        // Kept apart from the answers: a value is chosen by votes, though their answers be lost.
        final int[] everVoted = new int[PLACES];

        Ballot(int number, int members, int r, int w, int behind, int readers) {
            this.number = number;
            this.members = members;
            this.r = r;
            this.w = w;
            this.behind = behind;
            this.readers = readers;
        }

        boolean hasWord(int place) {
            return ((found | proposed) & (1 << place)) != 0;
        }

        boolean knows(int place) {
            return isPlace(place) && Integer.bitCount(voteAnswers[place]) >= w;
        }

        boolean hasChosen(int place) {
            return isPlace(place) && Integer.bitCount(everVoted[place]) >= w;
        }

        int knownPlaces() {
            int bits = 0;
            for (int place = 0; place < PLACES; place++) {
                if (knows(place)) {
                    bits |= 1 << place;
                }
            }
            return bits;
        }
    }

    /** What is on its way, a column for each of its parts, in the order in which it was sent. */
    private static final class Air {
        final int[] kind = new int[ROOM];
        final int[] ballot = new int[ROOM];
        final int[] voter = new int[ROOM];
        final int[] place = new int[ROOM];
        final long[] votes = new long[ROOM];
        int size;
        int lost;

        boolean has(int k) {
            return k >= 0 && k < size;
        }

        void send(int newKind, int newBallot, int newVoter, int newPlace, long newVotes) {
            if (size >= ROOM) {
                lost++;
                return;
            }
            kind[size] = newKind;
            ballot[size] = newBallot;
            voter[size] = newVoter;
            place[size] = newPlace;
            votes[size] = newVotes;
            size++;
        }

        void repeat(int k) {
            if (has(k)) {
                send(kind[k], ballot[k], voter[k], place[k], votes[k]);
            }
        }

        void drop(int k) {
            if (!has(k)) {
                return;
            }
            int behind = size - k - 1;
            System.arraycopy(kind, k + 1, kind, k, behind);
            System.arraycopy(ballot, k + 1, ballot, k, behind);
            System.arraycopy(voter, k + 1, voter, k, behind);
            System.arraycopy(place, k + 1, place, k, behind);
            System.arraycopy(votes, k + 1, votes, k, behind);
            size--;
        }
    }
}
