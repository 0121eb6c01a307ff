import java.util.ArrayList;
import java.util.List;
import java.util.Random;
import java.util.TreeMap;
import java.util.TreeSet;

// Long runs of calls, drawn from fixed seeds, on the class and on a second, plain telling of the
// document: sets and maps in place of bits, and letters that carry their values themselves.
// A run has 512 calls that act; the questions between them come on top, though the document leaves
// free what is answered behind the 512th call: the class does not count its calls.
public final class ModelTest {
    private static final int RUNS = 3000;
    private static final int CALLS = 512;

    private static final class Letter {
        String kind;
        int ballot;
        int voter = -1;
        int place = -1;
        long value;
        int behind;
        TreeMap<Integer, long[]> votes = new TreeMap<>();
    }

    private static final class Voter {
        int promise;
        boolean silent;
        TreeMap<Integer, long[]> votes = new TreeMap<>();
    }

    private static final class Leader {
        int number;
        TreeSet<Integer> members = new TreeSet<>();
        int r;
        int w;
        int behind;
        String state = "MADE";
        TreeSet<Integer> readAnswers = new TreeSet<>();
        TreeMap<Integer, long[]> found = new TreeMap<>();
        TreeMap<Integer, Long> proposed = new TreeMap<>();
        TreeMap<Integer, TreeSet<Integer>> answers = new TreeMap<>();
        TreeMap<Integer, TreeMap<Integer, Long>> cast = new TreeMap<>();

        Long word(int place) {
            if (found.containsKey(place)) {
                return found.get(place)[1];
            }
            return proposed.get(place);
        }

        TreeSet<Integer> answersIn(int place) {
            return answers.getOrDefault(place, new TreeSet<>());
        }

        boolean knows(int place) {
            return answersIn(place).size() >= w;
        }
    }

    private static final List<String> STATES = List.of("MADE", "READING", "MOVING", "ASKING", "ACTIVE");
    private static final List<String> KINDS =
        List.of("", "NEW", "READ", "READ ANSWER", "VOTE", "VOTE ANSWER", "COMPLETE", "ACTIVE");

    private static final class Model {
        List<Voter> voters = new ArrayList<>();
        List<Leader> leaders = new ArrayList<>();
        List<Letter> air = new ArrayList<>();
        int complete;
        int lost;

        Model(int n) {
            int many = n < 1 ? 1 : n > 7 ? 7 : n;
            for (int i = 0; i < many; i++) {
                voters.add(new Voter());
            }
        }

        Leader leader(int number) {
            return number < 1 || number > leaders.size() ? null : leaders.get(number - 1);
        }

        void send(String kind, Leader b, int voter, int place) {
            Letter l = new Letter();
            l.kind = kind;
            l.ballot = b.number;
            l.voter = voter;
            l.place = place;
            if (kind.equals("VOTE")) {
                l.value = b.word(place);
            }
            if (kind.equals("READ ANSWER")) {
                voters.get(voter).votes.forEach((p, v) -> l.votes.put(p, v.clone()));
            }
            if (kind.equals("COMPLETE")) {
                l.behind = b.behind;
            }
            if (air.size() == 400) {
                lost++;
            } else {
                air.add(l);
            }
        }

        int ballot(int members, int r, int w) {
            Leader b = new Leader();
            if (members <= 0 || members >= (1 << voters.size()) || leaders.size() == 24) {
                return -1;
            }
            for (int v = 0; v < voters.size(); v++) {
                if ((members & (1 << v)) != 0) {
                    b.members.add(v);
                }
            }
            int many = b.members.size();
            if (r < 1 || w < 1 || r > many || w > many || r + w <= many) {
                return -1;
            }
            b.r = r;
            b.w = w;
            b.behind = complete;
            leaders.add(b);
            b.number = leaders.size();
            send("NEW", b, -1, -1);
            return b.number;
        }

        List<Leader> ahead(Leader b) {
            List<Leader> some = new ArrayList<>();
            for (Leader c : leaders) {
                if (c.number < b.number && c.number >= b.behind) {
                    some.add(c);
                }
            }
            return some;
        }

        TreeSet<Integer> readers(Leader b) {
            TreeSet<Integer> all = new TreeSet<>();
            for (Leader c : ahead(b)) {
                all.addAll(c.members);
            }
            return all;
        }

        boolean propose(int ballot, int place, long value) {
            Leader b = leader(ballot);
            if (b == null || place < 0 || place > 7 || !b.state.equals("ACTIVE") || b.word(place) != null) {
                return false;
            }
            b.proposed.put(place, value);
            for (int v : b.members) {
                send("VOTE", b, v, place);
            }
            return true;
        }

        int again(int ballot) {
            Leader b = leader(ballot);
            if (b == null) {
                return -1;
            }
            int sent = 0;
            if (b.state.equals("MADE")) {
                send("NEW", b, -1, -1);
                sent++;
            } else if (b.state.equals("ASKING")) {
                send("COMPLETE", b, -1, -1);
                sent++;
            } else if (b.state.equals("READING")) {
                for (int v : readers(b)) {
                    if (!b.readAnswers.contains(v)) {
                        send("READ", b, v, -1);
                        sent++;
                    }
                }
            } else {
                for (int p = 0; p < 8; p++) {
                    for (int v : b.members) {
                        if (b.word(p) != null && !b.knows(p) && !b.answersIn(p).contains(v)) {
                            send("VOTE", b, v, p);
                            sent++;
                        }
                    }
                }
            }
            return sent;
        }

        boolean held(Letter l) {
            return (l.kind.equals("READ") || l.kind.equals("VOTE")) && voters.get(l.voter).silent;
        }

        boolean has(int k) {
            return k >= 0 && k < air.size();
        }

        boolean deliver(int k) {
            if (!has(k) || held(air.get(k))) {
                return false;
            }
            Letter l = air.remove(k);
            Leader b = leader(l.ballot);
            switch (l.kind) {
                case "NEW":
                    if (b.state.equals("MADE")) {
                        beginReading(b);
                    }
                    break;
                case "READ":
                    Voter reader = voters.get(l.voter);
                    if (reader.promise <= b.number) {
                        reader.promise = b.number;
                        send("READ ANSWER", b, l.voter, -1);
                    }
                    break;
                case "READ ANSWER":
                    if (b.state.equals("READING") && b.readAnswers.add(l.voter)) {
                        l.votes.forEach((p, v) -> {
                            if (!b.found.containsKey(p) || b.found.get(p)[0] < v[0]) {
                                b.found.put(p, v);
                            }
                        });
                        endReading(b);
                    }
                    break;
                case "VOTE":
                    Voter voter = voters.get(l.voter);
                    if (voter.promise <= b.number) {
                        voter.promise = b.number;
                        voter.votes.put(l.place, new long[] {b.number, l.value});
                        b.cast.computeIfAbsent(l.place, p -> new TreeMap<>()).put(l.voter, l.value);
                        send("VOTE ANSWER", b, l.voter, l.place);
                    }
                    break;
                case "VOTE ANSWER":
                    if (STATES.indexOf(b.state) >= 2) {
                        b.answers.computeIfAbsent(l.place, p -> new TreeSet<>()).add(l.voter);
                        if (b.state.equals("MOVING")) {
                            endMoving(b);
                        }
                    }
                    break;
                case "COMPLETE":
                    if (complete == l.behind || complete == l.ballot) {
                        complete = l.ballot;
                        send("ACTIVE", b, -1, -1);
                    }
                    break;
                default:
                    if (b.state.equals("ASKING")) {
                        b.state = "ACTIVE";
                    }
            }
            return true;
        }

        void beginReading(Leader b) {
            b.state = "READING";
            for (int v : readers(b)) {
                send("READ", b, v, -1);
            }
            endReading(b);
        }

        void endReading(Leader b) {
            for (Leader c : ahead(b)) {
                TreeSet<Integer> both = new TreeSet<>(c.members);
                both.retainAll(b.readAnswers);
                if (both.size() < c.r) {
                    return;
                }
            }
            b.state = "MOVING";
            for (int p : b.found.keySet()) {
                for (int v : b.members) {
                    send("VOTE", b, v, p);
                }
            }
            endMoving(b);
        }

        void endMoving(Leader b) {
            for (int p : b.found.keySet()) {
                if (!b.knows(p)) {
                    return;
                }
            }
            b.state = "ASKING";
            send("COMPLETE", b, -1, -1);
        }

        int settle(int n) {
            if (n < 0) {
                return -1;
            }
            int done = 0;
            boolean any = true;
            while (done < n && any) {
                any = false;
                for (int k = 0; k < air.size() && !any; k++) {
                    any = deliver(k);
                }
                done += any ? 1 : 0;
            }
            return done;
        }

        boolean lose(int k) {
            if (!has(k)) {
                return false;
            }
            air.remove(k);
            return true;
        }

        boolean twice(int k) {
            if (!has(k) || air.size() >= 400) {
                return false;
            }
            air.add(air.get(k));
            return true;
        }

        boolean silent(int voter, boolean is) {
            if (voter < 0 || voter >= voters.size()) {
                return false;
            }
            voters.get(voter).silent = is;
            return true;
        }

        boolean isSpot(int voter, int place) {
            return voter >= 0 && voter < voters.size() && place >= 0 && place < 8;
        }

        int promise(int voter) {
            return isSpot(voter, 0) ? voters.get(voter).promise : -1;
        }

        int vote(int voter, int place) {
            if (!isSpot(voter, place)) {
                return -1;
            }
            long[] v = voters.get(voter).votes.get(place);
            return v == null ? 0 : (int) v[0];
        }

        long value(int voter, int place) {
            if (!isSpot(voter, place)) {
                return 0;
            }
            long[] v = voters.get(voter).votes.get(place);
            return v == null ? 0 : v[1];
        }

        int bits(Iterable<Integer> some) {
            int bits = 0;
            for (int s : some) {
                bits |= 1 << s;
            }
            return bits;
        }

        int of(int ballot, int what) {
            Leader b = leader(ballot);
            if (b == null || what < 0 || what > 8) {
                return -1;
            }
            TreeSet<Integer> known = new TreeSet<>();
            for (int p = 0; p < 8; p++) {
                if (b.knows(p)) {
                    known.add(p);
                }
            }
            int[] all = {STATES.indexOf(b.state), bits(b.members), b.r, b.w, b.behind, bits(b.readAnswers),
                bits(b.found.keySet()), bits(b.proposed.keySet()), bits(known)};
            return all[what];
        }

        int answered(int ballot, int place) {
            Leader b = leader(ballot);
            return b == null || place < 0 || place > 7 ? -1 : bits(b.answersIn(place));
        }

        long said(int ballot, int place) {
            Leader b = leader(ballot);
            return b == null || b.word(place) == null ? 0 : b.word(place);
        }

        List<long[]> choices(int place) {
            List<long[]> all = new ArrayList<>();
            for (Leader b : leaders) {
                TreeMap<Integer, Long> cast = b.cast.getOrDefault(place, new TreeMap<>());
                if (cast.size() >= b.w) {
                    all.add(new long[] {b.number, cast.firstEntry().getValue()});
                }
            }
            return all;
        }

        int chosen(int place) {
            List<long[]> all = choices(place);
            return all.isEmpty() ? -1 : (int) all.get(0)[0];
        }

        long chosenValue(int place) {
            List<long[]> all = choices(place);
            return all.isEmpty() ? 0 : all.get(0)[1];
        }

        boolean isOne(int place) {
            TreeSet<Long> values = new TreeSet<>();
            for (long[] c : choices(place)) {
                values.add(c[1]);
            }
            return values.size() < 2;
        }

        int air(int k, int what) {
            if (!has(k) || what < 0 || what > 4) {
                return -1;
            }
            Letter l = air.get(k);
            int[] all = {KINDS.indexOf(l.kind), l.ballot, l.voter, l.place, bits(l.votes.keySet())};
            return all[what];
        }

        int about(int what) {
            int[] all = {voters.size(), leaders.size(), complete, air.size(), lost};
            return what < 0 || what > 4 ? -1 : all[what];
        }
    }

    private static int wrong = 0;
    private static final TreeMap<String, Integer> SEEN = new TreeMap<>();

    private static void seen(String what) {
        SEEN.merge(what, 1, Integer::sum);
    }

    private static void due(int run, int call, String name, long got, long want) {
        if (got != want && wrong++ < 50) {
            System.out.println("run " + run + " call " + call + ": " + name + " answered " + got + ", due is " + want);
        }
    }

    private static long bit(boolean is) {
        return is ? 1 : 0;
    }

    // Mostly what can be, with now and then an argument just or far outside.
    private static int near(Random dice, int from, int to) {
        switch (dice.nextInt(40)) {
            case 0: return from - 1;
            case 1: return to + 1;
            case 2: return dice.nextInt();
            default: return from + dice.nextInt(Math.max(1, to - from + 1));
        }
    }

    private static int members(Random dice, int n) {
        int some = dice.nextInt(1 << n);
        return dice.nextInt(30) == 0 ? dice.nextInt() : some;
    }

    // Style 1 settles much, 2 fills the air, 3 uses all places.
    private static void act(int run, int i, Random dice, BallotHouse x, Model y, int style) {
        int n = y.voters.size();
        int size = y.air.size();
        int k = dice.nextInt(4) == 0 ? near(dice, 0, size - 1) : dice.nextInt(Math.max(1, Math.min(size, 6)));
        int ballot = dice.nextBoolean() ? near(dice, 1, y.leaders.size()) : y.leaders.size();
        int place = near(dice, 0, style == 3 ? 7 : 3);
        int voter = near(dice, 0, n - 1);
        int pick = style == 2 && i >= 60 && i < 430 ? 91 : dice.nextInt(100);
        if (pick < 6 || i == 0) {
            int m = members(dice, n);
            int many = Math.max(1, Integer.bitCount(m));
            int w = near(dice, 1, many);
            int r = dice.nextBoolean() ? many + 1 - w : near(dice, 1, many);
            due(run, i, "ballot", x.ballot(m, r, w), y.ballot(m, r, w));
        } else if (pick < 22) {
            long value = dice.nextInt(5) == 0 ? dice.nextLong() : dice.nextInt(4);
            due(run, i, "propose", bit(x.propose(ballot, place, value)), bit(y.propose(ballot, place, value)));
        } else if (pick < (style == 2 ? 50 : 30)) {
            due(run, i, "again", x.again(ballot), y.again(ballot));
        } else if (pick < 60) {
            due(run, i, "deliver", bit(x.deliver(k)), bit(y.deliver(k)));
        } else if (pick < 74) {
            int many = dice.nextInt(style == 1 ? 60 : 8) - (dice.nextInt(20) == 0 ? 9 : 0);
            due(run, i, "settle", x.settle(many), y.settle(many));
        } else if (pick < 82) {
            due(run, i, "lose", bit(x.lose(k)), bit(y.lose(k)));
        } else if (pick < 92) {
            due(run, i, "twice", bit(x.twice(k)), bit(y.twice(k)));
        } else {
            boolean is = dice.nextInt(3) == 0;
            due(run, i, "silent", bit(x.silent(voter, is)), bit(y.silent(voter, is)));
        }
    }

    private static void compare(int run, int i, BallotHouse x, Model y) {
        for (int what = -1; what <= 5; what++) {
            due(run, i, "about " + what, x.about(what), y.about(what));
        }
        for (int voter = -1; voter <= y.voters.size(); voter++) {
            due(run, i, "promise " + voter, x.promise(voter), y.promise(voter));
            for (int place = -1; place <= 8; place++) {
                due(run, i, "vote " + voter + " " + place, x.vote(voter, place), y.vote(voter, place));
                due(run, i, "value " + voter + " " + place, x.value(voter, place), y.value(voter, place));
            }
        }
        for (int ballot = 0; ballot <= y.leaders.size() + 1; ballot++) {
            for (int what = -1; what <= 9; what++) {
                due(run, i, "of " + ballot + " " + what, x.of(ballot, what), y.of(ballot, what));
            }
            for (int place = -1; place <= 8; place++) {
                due(run, i, "answered " + ballot + " " + place, x.answered(ballot, place), y.answered(ballot, place));
                due(run, i, "said " + ballot + " " + place, x.said(ballot, place), y.said(ballot, place));
            }
        }
        for (int place = -1; place <= 8; place++) {
            due(run, i, "chosen " + place, x.chosen(place), y.chosen(place));
            due(run, i, "chosenValue " + place, x.chosenValue(place), y.chosenValue(place));
            due(run, i, "isOne " + place, bit(x.isOne(place)), bit(y.isOne(place)));
        }
        for (int k = -1; k <= y.air.size(); k++) {
            for (int what = -1; what <= 5; what++) {
                due(run, i, "air " + k + " " + what, x.air(k, what), y.air(k, what));
            }
        }
    }

    // What the runs came to, so that a test that no longer reaches the edges fails.
    private static void note(Model y) {
        for (Leader b : y.leaders) {
            seen("a ballot " + b.state);
            if (!b.found.isEmpty()) {
                seen("something found");
            }
            if (b.found.size() > 1) {
                seen("several found");
            }
            if (b.behind > 0 && b.behind < b.number - 1) {
                seen("several read from behind");
            }
        }
        if (y.leaders.size() == 24) {
            seen("24 ballots");
        }
        if (y.lost > 0) {
            seen("a full air");
        }
        for (int place = 0; place < 8; place++) {
            if (y.choices(place).size() > 1) {
                seen("chosen by several");
            }
            if (!y.isOne(place)) {
                seen("not one");
            }
        }
    }

    private static void fail(String why) {
        wrong++;
        System.out.println(why);
    }

    public static void main(String[] args) {
        for (int run = 0; run < RUNS; run++) {
            Random dice = new Random(run * 7919L + 13);
            int n = run % 10 == 0 ? near(dice, 1, 7) : 1 + dice.nextInt(4);
            BallotHouse x = new BallotHouse(n);
            Model y = new Model(n);
            for (int i = 0; i < CALLS && wrong < 50; i++) {
                act(run, i, dice, x, y, run % 4);
                if (i % 64 == 63 || run % 100 == 0 || i < 40) {
                    compare(run, i, x, y);
                }
            }
            note(y);
        }
        System.out.println(SEEN);
        for (String what : List.of("a ballot MADE", "a ballot READING", "a ballot MOVING", "a ballot ASKING",
            "a ballot ACTIVE", "something found", "several found", "several read from behind", "24 ballots",
            "a full air", "chosen by several")) {
            if (SEEN.getOrDefault(what, 0) < 100) {
                fail("too few runs with " + what);
            }
        }
        if (SEEN.containsKey("not one")) {
            fail("two values were chosen in one place");
        }
        System.out.println(wrong == 0 ? "the class and the model agree" : wrong + " answers are not as due");
        if (wrong != 0) {
            System.exit(1);
        }
    }
}
