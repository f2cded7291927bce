import java.util.ArrayList;
import java.util.HashSet;
import java.util.List;
import java.util.Set;
import java.util.TreeSet;
import java.util.function.Predicate;

/**
 * The document a second time, held otherwise than in BallotDesk: nodes keep logs of records, and what is asked
 * is worked out from the logs each time. ModelTest compares the two.
 */
final class BallotDeskModel {
    static final int REFUSED = -1, FULL = -2, NONE = -3;

    record Rec(int ballot, int instance, int value) {
        boolean isAnswer() {
            return value == 0;
        }
    }

    record Vote(int ballot, int value) { }

    record Fact(int node, int instance, Vote vote) { }

    record Pick(int value, boolean free) { }

    static final class Sys {
        int sort, a, b, c, d;

        Sys(int sort, int a, int b, int c, int d) {
            this.sort = sort;
            this.a = a;
            this.b = b;
            this.c = c;
            this.d = d;
        }

        boolean inRange() {
            switch (sort) {
                case 0: return in(a, 1, 127) && in(b, 1, 7) && in(c, 1, 7) && in(d, 0, 7);
                case 1: return in(a, 1, 7) && in(b, 1, 7) && in(a * b, 1, 7);
                case 2: return in(a, 0, 9999999) && in(b, 1, 63) && in(c, 1, 63) && in(d, 0, 63);
                case 3: return in(a, 0, 268435455) && in(b, 0, 268435455) && in(c, 0, 268435455);
                default: return false;
            }
        }

        boolean is(int kind, Set<Integer> set) {
            if (kind == 2 && (sort == 3 ? c : d) == 0) return false;
            int need = kind == 0 ? b : kind == 1 ? c : d;
            if (sort == 0) {
                return set.stream().filter(n -> (a >> n) % 2 == 1).count() >= need;
            }
            if (sort == 1) {
                return grid(kind, set);
            }
            if (sort == 2) {
                String digits = String.format("%07d", a);
                return set.stream().mapToInt(n -> digits.charAt(6 - n) - '0').sum() >= need;
            }
            int list = kind == 0 ? a : kind == 1 ? b : c;
            for (int place = 0; place < 4; place++, list /= 128) {
                Set<Integer> part = set(list % 128);
                if (!part.isEmpty() && set.containsAll(part)) return true;
            }
            return false;
        }

        private boolean grid(int kind, Set<Integer> set) {
            if (kind == 0) {
                for (int i = 0; i < a; i++) {
                    Set<Integer> row = new HashSet<>();
                    for (int j = 0; j < b; j++) row.add(b * i + j);
                    if (set.containsAll(row)) return true;
                }
                return false;
            }
            for (int chosen = 0; chosen < b; chosen++) {
                Set<Integer> need = new HashSet<>();
                for (int i = 0; i < a; i++) {
                    for (int j = 0; j < b; j++) {
                        if (kind == 1 ? j == chosen : j != chosen) need.add(b * i + j);
                    }
                }
                if (set.containsAll(need)) return true;
            }
            return false;
        }

        List<Integer> all(int kind) {
            List<Integer> all = new ArrayList<>();
            for (int set = 0; set < 128; set++) if (is(kind, set(set))) all.add(set);
            return all;
        }

        boolean sound() {
            List<Integer> reads = all(0), writes = all(1), fasts = all(2);
            if (reads.isEmpty() || writes.isEmpty()) return false;
            for (int r : reads) {
                for (int w : writes) if ((r & w) == 0) return false;
                for (int f : fasts) for (int g : fasts) if ((r & f & g) == 0) return false;
            }
            return true;
        }
    }

    static final class Ballot {
        Sys sys;
        int number, s, base;
        boolean fast, completed;
        Pick[] picks = new Pick[3];
        // The synced log of each node that ANSWERED, as it was then.
        List<List<Rec>> kept = new ArrayList<>();

        Ballot() {
            for (int n = 0; n < 7; n++) kept.add(null);
        }

        Set<Integer> answered() {
            Set<Integer> set = new TreeSet<>();
            for (int n = 0; n < 7; n++) if (kept.get(n) != null) set.add(n);
            return set;
        }
    }

    static final class Node {
        boolean up = true;
        List<Rec> synced = new ArrayList<>();
        List<Rec> queue = new ArrayList<>();

        List<Rec> own() {
            List<Rec> all = new ArrayList<>(synced);
            all.addAll(queue);
            return all;
        }
    }

    private final Sys[] systems = new Sys[4];
    private final List<Ballot> ballots = new ArrayList<>();
    private final List<Node> nodes = new ArrayList<>();
    private final List<Set<Fact>> learners = List.of(new HashSet<>(), new HashSet<>());

    BallotDeskModel() {
        for (int n = 0; n < 7; n++) nodes.add(new Node());
    }

    static boolean in(int x, int least, int most) {
        return least <= x && x <= most;
    }

    static Set<Integer> set(int mask) {
        Set<Integer> set = new TreeSet<>();
        for (int n = 0; n < 7; n++) if ((mask >> n) % 2 == 1) set.add(n);
        return set;
    }

    static int mask(Set<Integer> set) {
        return set.stream().mapToInt(n -> 1 << n).sum();
    }

    static Set<Integer> union(Set<Integer> one, Set<Integer> two) {
        Set<Integer> both = new TreeSet<>(one);
        both.addAll(two);
        return both;
    }

    static int promise(List<Rec> log) {
        return log.stream().mapToInt(Rec::ballot).max().orElse(0);
    }

    static Vote latest(List<Rec> log, int i) {
        Vote vote = null;
        for (Rec r : log) if (!r.isAnswer() && r.instance() == i) vote = new Vote(r.ballot(), r.value());
        return vote;
    }

    /** The least size of a subset of open that fits, NONE if none does. */
    static int leastMore(Set<Integer> open, Predicate<Set<Integer>> fits) {
        int least = NONE;
        for (int m = 0; m < 128; m++) {
            Set<Integer> more = set(m);
            if (open.containsAll(more) && (least == NONE || more.size() < least) && fits.test(more)) least = more.size();
        }
        return least;
    }

    private boolean isSystem(int s) {
        return in(s, 0, 3) && systems[s] != null;
    }

    private Ballot at(int b) {
        return in(b, 1, ballots.size()) ? ballots.get(b - 1) : null;
    }

    boolean define(int s, int sort, int a, int b, int c, int d) {
        if (!in(s, 0, 3) || ballots.stream().anyMatch(x -> x.s == s)) return false;
        Sys sys = new Sys(sort, a, b, c, d);
        if (!sys.inRange() || !sys.sound()) return false;
        systems[s] = sys;
        return true;
    }

    int quorum(int s, int kind, int set) {
        if (!isSystem(s) || !in(kind, 0, 2) || !in(set, 0, 127)) return REFUSED;
        return systems[s].is(kind, set(set)) ? 1 : 0;
    }

    int system(int s, int kind, int what) {
        if (!isSystem(s) || !in(kind, 0, 2) || !in(what, 0, 2)) return REFUSED;
        List<Integer> all = systems[s].all(kind);
        if (what == 2) {
            return (int) all.stream().filter(q -> set(q).stream().noneMatch(n -> all.contains(q - (1 << n)))).count();
        }
        if (all.isEmpty()) return NONE;
        if (what == 0) return all.stream().mapToInt(Integer::bitCount).min().getAsInt();
        int most = 0;
        for (int size = 0; size <= 7; size++) {
            boolean fine = true;
            for (int gone = 0; gone < 128; gone++) {
                if (Integer.bitCount(gone) == size && !all.contains(127 - gone)) fine = false;
            }
            if (fine) most = size;
        }
        return most;
    }

    int begin(int s, boolean fast) {
        if (!isSystem(s) || fast && systems[s].all(2).isEmpty()) return REFUSED;
        if (ballots.size() == 12) return FULL;
        Ballot x = new Ballot();
        x.number = ballots.size() + 1;
        x.s = s;
        x.sys = systems[s];
        x.fast = fast;
        x.base = ballots.stream().filter(y -> y.completed).mapToInt(y -> y.number).max().orElse(0);
        ballots.add(x);
        return x.number;
    }

    boolean power(int n, boolean up) {
        if (!in(n, 0, 6) || nodes.get(n).up == up) return false;
        nodes.get(n).up = up;
        nodes.get(n).queue.clear();
        return true;
    }

    private boolean writable(int n) {
        return nodes.get(n).up && nodes.get(n).queue.size() < 6;
    }

    boolean ask(int b, int n) {
        if (at(b) == null || !in(n, 0, 6) || !writable(n) || promise(nodes.get(n).own()) >= b) return false;
        nodes.get(n).queue.add(new Rec(b, 0, 0));
        return true;
    }

    private boolean ready(Ballot x, Set<Integer> answered) {
        return ballots.stream().filter(c -> c.number >= x.base && c.number < x.number).allMatch(c -> c.sys.is(0, answered));
    }

    int pick(int b, int i, int v) {
        Ballot x = at(b);
        if (x == null || !in(i, 0, 2) || !in(v, 1, 7) || x.picks[i] != null || !ready(x, x.answered())) return REFUSED;
        int bound = bound(x, i);
        x.picks[i] = new Pick(bound != 0 ? bound : x.fast ? 0 : v, bound == 0);
        return x.picks[i].value();
    }

    private int bound(Ballot x, int i) {
        Set<Integer> silent = new TreeSet<>(set(127));
        silent.removeAll(x.answered());
        int k = 0;
        for (int n : x.answered()) {
            Vote vote = latest(x.kept.get(n), i);
            if (vote != null && vote.ballot() >= x.base) k = Math.max(k, vote.ballot());
        }
        if (k == 0) return 0;
        if (at(k).picks[i].value() != 0) return at(k).picks[i].value();
        for (int w = 1; w <= 7; w++) {
            Set<Integer> set = new TreeSet<>(silent);
            for (int n : x.answered()) if (new Vote(k, w).equals(latest(x.kept.get(n), i))) set.add(n);
            if (at(k).sys.is(2, set)) return w;
        }
        return 0;
    }

    private boolean canVote(Ballot x, int i, List<Rec> log) {
        Vote vote = latest(log, i);
        return x.picks[i] != null && promise(log) <= x.number && (vote == null || vote.ballot() < x.number);
    }

    private boolean writesVote(Ballot x, int i, int n, int v) {
        if (!writable(n) || !canVote(x, i, nodes.get(n).own())) return false;
        nodes.get(n).queue.add(new Rec(x.number, i, v));
        return true;
    }

    boolean vote(int b, int i, int n) {
        Ballot x = at(b);
        if (x == null || !in(i, 0, 2) || !in(n, 0, 6) || x.picks[i] == null || x.picks[i].value() == 0) return false;
        return writesVote(x, i, n, x.picks[i].value());
    }

    boolean propose(int b, int i, int n, int v) {
        Ballot x = at(b);
        if (x == null || !in(i, 0, 2) || !in(n, 0, 6) || !in(v, 1, 7)) return false;
        return x.picks[i] != null && x.picks[i].value() == 0 && writesVote(x, i, n, v);
    }

    int sync(int n, int k) {
        if (!in(n, 0, 6) || !in(k, 0, 6) || !nodes.get(n).up) return REFUSED;
        int done = 0;
        for (Node x = nodes.get(n); done < k && !x.queue.isEmpty(); done++) {
            Rec r = x.queue.remove(0);
            if (r.isAnswer()) at(r.ballot()).kept.set(n, new ArrayList<>(x.synced));
            x.synced.add(r);
        }
        return done;
    }

    private Set<Integer> voters(int b, int i, int v) {
        Set<Integer> set = new TreeSet<>();
        for (int n = 0; n < 7; n++) if (nodes.get(n).synced.contains(new Rec(b, i, v))) set.add(n);
        return set;
    }

    private boolean enough(Ballot x, int i, Set<Integer> set) {
        return x.picks[i] != null && x.sys.is(x.picks[i].value() == 0 ? 2 : 1, set);
    }

    boolean complete(int b) {
        Ballot x = at(b);
        if (x == null || x.completed || !ready(x, x.answered())) return false;
        for (int i = 0; i < 3; i++) {
            Pick p = x.picks[i];
            if (p == null || !p.free() && !enough(x, i, voters(b, i, p.value()))) return false;
        }
        x.completed = true;
        return true;
    }

    int hear(int l, int n) {
        if (!in(l, 0, 1) || !in(n, 0, 6) || !nodes.get(n).up) return REFUSED;
        int count = 0;
        for (int i = 0; i < 3; i++) {
            Vote vote = latest(nodes.get(n).synced, i);
            if (vote != null) learners.get(l).add(new Fact(n, i, vote));
        }
        for (int i = 0; i < 3; i++) if (learned(l, i) > 0) count++;
        return count;
    }

    int learned(int l, int i) {
        if (!in(l, 0, 1) || !in(i, 0, 2)) return REFUSED;
        for (int v = 1; v <= 7; v++) {
            for (Ballot x : ballots) {
                Set<Integer> set = new TreeSet<>();
                for (int n = 0; n < 7; n++) if (learners.get(l).contains(new Fact(n, i, new Vote(x.number, v)))) set.add(n);
                if (enough(x, i, set)) return v;
            }
        }
        return 0;
    }

    int node(int n, int what) {
        if (!in(n, 0, 6) || !in(what, 0, 9)) return REFUSED;
        Node x = nodes.get(n);
        if (what == 0) return x.up ? 1 : 0;
        if (what == 9) return x.queue.size();
        List<Rec> log = what < 5 ? x.own() : x.synced;
        int which = (what - 1) % 4;
        if (which == 0) return promise(log);
        Vote vote = latest(log, which - 1);
        return vote == null ? 0 : 8 * vote.ballot() + vote.value();
    }

    int ballot(int b, int what) {
        Ballot x = at(b);
        if (x == null || !in(what, 0, 11)) return REFUSED;
        switch (what) {
            case 0: return x.s;
            case 1: return x.fast ? 1 : 0;
            case 2: return x.base;
            case 3: return mask(x.answered());
            case 4: return ready(x, x.answered()) ? 1 : 0;
            case 5: return x.completed ? 1 : 0;
            default:
                Pick p = x.picks[what % 3];
                if (what < 9) return p == null ? NONE : p.value();
                return p != null && p.free() ? 1 : 0;
        }
    }

    int tally(int b, int i, int v) {
        return at(b) == null || !in(i, 0, 2) || !in(v, 1, 7) ? REFUSED : mask(voters(b, i, v));
    }

    int chosen(int i) {
        if (!in(i, 0, 2)) return REFUSED;
        for (int v = 1; v <= 7; v++) for (Ballot x : ballots) if (enough(x, i, voters(x.number, i, v))) return v;
        return 0;
    }

    private Set<Integer> open(Ballot x, int i) {
        Set<Integer> set = new TreeSet<>();
        for (int n = 0; n < 7; n++) if (canVote(x, i, nodes.get(n).synced)) set.add(n);
        return set;
    }

    private boolean admits(Ballot x, int i, int v) {
        return x.picks[i] != null && (x.picks[i].value() == v || x.picks[i].value() == 0);
    }

    int possible(int i) {
        if (!in(i, 0, 2)) return REFUSED;
        int sum = 0;
        for (int v = 1; v <= 7; v++) {
            for (Ballot x : ballots) {
                if (admits(x, i, v) && enough(x, i, union(voters(x.number, i, v), open(x, i)))) {
                    sum += 1 << v;
                    break;
                }
            }
        }
        return sum;
    }

    int common(int s, int kind, int t, int other) {
        if (!isSystem(s) || !isSystem(t) || !in(kind, 0, 2) || !in(other, 0, 2)) return REFUSED;
        int least = NONE;
        List<Integer> theirs = systems[t].all(other);
        for (int p : systems[s].all(kind)) {
            for (int q : theirs) least = least == NONE ? Integer.bitCount(p & q) : Math.min(least, Integer.bitCount(p & q));
        }
        return least;
    }

    int answers(int b) {
        Ballot x = at(b);
        if (x == null) return REFUSED;
        Set<Integer> open = new TreeSet<>();
        for (int n = 0; n < 7; n++) if (x.kept.get(n) == null && promise(nodes.get(n).synced) < b) open.add(n);
        return leastMore(open, more -> ready(x, union(x.answered(), more)));
    }

    int votes(int b, int i, int v) {
        Ballot x = at(b);
        if (x == null || !in(i, 0, 2) || !in(v, 1, 7)) return REFUSED;
        if (!admits(x, i, v)) return NONE;
        return leastMore(open(x, i), more -> enough(x, i, union(voters(b, i, v), more)));
    }

    int drive(int b, int v, int n) {
        if (at(b) == null || !in(v, 1, 7) || !in(n, 0, 60)) return REFUSED;
        int done = 0;
        while (done < n && once(b, v)) done++;
        return done;
    }

    private boolean once(int b, int v) {
        Ballot x = at(b);
        for (int n = 0; n < 7; n++) if (sync(n, 1) == 1) return true;
        if (!ready(x, x.answered())) for (int n = 0; n < 7; n++) if (ask(b, n)) return true;
        for (int i = 0; i < 3; i++) if (pick(b, i, v) >= 0) return true;
        for (int i = 0; i < 3; i++) {
            for (int n = 0; n < 7; n++) if (vote(b, i, n) || propose(b, i, n, v)) return true;
        }
        return complete(b);
    }
}
