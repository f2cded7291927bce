/**
 * A desk on which nodes agree on values by ballots. The words in capitals are those of the document.
 * Sets of nodes are bit masks; a VOTE or a kept VOTE is held as 8 times its ballot and its value, 0 if there is none.
 */
public final class BallotDesk {
    public static final int REFUSED = -1, FULL = -2, NONE = -3;

    private static final int NODES = 7, SETS = 128, ALL_NODES = 127;
    private static final int SYSTEMS = 4, KINDS = 3, READ = 0, WRITE = 1, FAST = 2;
    private static final int COUNT = 0, GRID = 1, WEIGHTS = 2, LISTS = 3;
    private static final int MOST_WEIGHTS = 9999999, MOST_WEIGHT = 63, MOST_LIST = 268435455, LIST_LENGTH = 4;
    private static final int BALLOTS = 12, INSTANCES = 3, VALUES = 7, ANY = 0;
    private static final int QUEUE_ROOM = 6, LEARNERS = 2, MOST_STEPS = 60;

    // Ballots count from 1 and values, too: the cells for 0 stay unused, so that numbers are indices as they are.
    private static final int BALLOT_CELLS = 13, VALUE_CELLS = 8;
    private static final int SYSTEM_SETS = KINDS * SETS;
    private static final int ALL_SYSTEM_SETS = SYSTEMS * SYSTEM_SETS;
    private static final int NODE_VOTES = NODES * INSTANCES;
    private static final int QUEUE_CELLS = NODES * QUEUE_ROOM;
    private static final int PICK_CELLS = BALLOT_CELLS * INSTANCES;
    private static final int KEPT_CELLS = BALLOT_CELLS * NODE_VOTES;
    private static final int TALLY_CELLS = PICK_CELLS * VALUE_CELLS;
    private static final int KNOWN_CELLS = LEARNERS * TALLY_CELLS;

    private final boolean[] defined = new boolean[SYSTEMS];
    private final boolean[] isQuorum = new boolean[ALL_SYSTEM_SETS];
    // A SYSTEM is laid out here first, so that one that is not SOUND leaves no trace.
    private final boolean[] trial = new boolean[SYSTEM_SETS];

    private final boolean[] up = new boolean[NODES];
    private final int[] ownPromise = new int[NODES];
    private final int[] ownVote = new int[NODE_VOTES];
    private final int[] syncedPromise = new int[NODES];
    private final int[] syncedVote = new int[NODE_VOTES];
    private final int[] queueBallot = new int[QUEUE_CELLS];
    private final int[] queueInstance = new int[QUEUE_CELLS];
    // 0 tells an ANSWER from a VOTE.
    private final int[] queueValue = new int[QUEUE_CELLS];
    private final int[] queueLength = new int[NODES];

    private int begun = 0;
    private final int[] systemOf = new int[BALLOT_CELLS];
    private final boolean[] isFast = new boolean[BALLOT_CELLS];
    private final int[] baseOf = new int[BALLOT_CELLS];
    private final int[] answered = new int[BALLOT_CELLS];
    private final boolean[] completed = new boolean[BALLOT_CELLS];
    private final int[] picked = new int[PICK_CELLS];
    private final boolean[] wasFree = new boolean[PICK_CELLS];
    private final int[] keptVote = new int[KEPT_CELLS];
    private final int[] voted = new int[TALLY_CELLS];
    private final int[] known = new int[KNOWN_CELLS];

    public BallotDesk() {
        for (int n = 0; n < NODES; n++) {
            up[n] = true;
        }
        for (int cell = 0; cell < PICK_CELLS; cell++) {
            picked[cell] = NONE;
        }
    }

    // ---- systems of quorums

    public boolean define(int s, int sort, int a, int b, int c, int d) {
        if (s < 0 || s >= SYSTEMS || hasBallot(s) || !inRange(sort, a, b, c, d)) {
            return false;
        }
        layOut(sort, a, b, c, d);
        if (!trialIsSound()) {
            return false;
        }
        for (int cell = 0; cell < SYSTEM_SETS; cell++) {
            isQuorum[s * SYSTEM_SETS + cell] = trial[cell];
        }
        defined[s] = true;
        return true;
    }

    public int quorum(int s, int kind, int set) {
        if (!isSystem(s) || !isKind(kind) || set < 0 || set >= SETS) {
            return REFUSED;
        }
        return holds(s, kind, set) ? 1 : 0;
    }

    public int system(int s, int kind, int what) {
        if (!isSystem(s) || !isKind(kind)) {
            return REFUSED;
        }
        switch (what) {
            case 0:
                return leastQuorum(s, kind);
            case 1:
                return mostLosses(s, kind);
            case 2:
                return tightQuorums(s, kind);
            default:
                return REFUSED;
        }
    }

    public int common(int s, int kind, int t, int other) {
        if (!isSystem(s) || !isKind(kind) || !isSystem(t) || !isKind(other)) {
            return REFUSED;
        }
        int least = NONE;
        for (int one = 0; one < SETS; one++) {
            if (!holds(s, kind, one)) {
                continue;
            }
            for (int two = 0; two < SETS; two++) {
                if (holds(t, other, two)) {
                    int size = sizeOf(one & two);
                    least = lesser(least, size);
                }
            }
        }
        return least;
    }

    private boolean isSystem(int s) {
        return s >= 0 && s < SYSTEMS && defined[s];
    }

    private static boolean isKind(int kind) {
        return kind >= 0 && kind < KINDS;
    }

    private boolean holds(int s, int kind, int set) {
        return isQuorum[s * SYSTEM_SETS + kind * SETS + set];
    }

    private static int sizeOf(int set) {
        int size = 0;
        for (int n = 0; n < NODES; n++) {
            size += set >> n & 1;
        }
        return size;
    }

    /** The lesser of a size and the least one so far, which is NONE before the first. */
    private static int lesser(int least, int size) {
        return least == NONE || size < least ? size : least;
    }

    private boolean hasBallot(int s) {
        for (int b = 1; b <= begun; b++) {
            if (systemOf[b] == s) {
                return true;
            }
        }
        return false;
    }

    private static boolean inRange(int sort, int a, int b, int c, int d) {
        switch (sort) {
            case COUNT:
                return within(a, 1, ALL_NODES) && within(b, 1, NODES) && within(c, 1, NODES) && within(d, 0, NODES);
            case GRID:
                return within(a, 1, NODES) && within(b, 1, NODES) && a * b <= NODES;
            case WEIGHTS:
                return within(a, 0, MOST_WEIGHTS) && within(b, 1, MOST_WEIGHT) && within(c, 1, MOST_WEIGHT)
                        && within(d, 0, MOST_WEIGHT);
            case LISTS:
                return within(a, 0, MOST_LIST) && within(b, 0, MOST_LIST) && within(c, 0, MOST_LIST);
            default:
                return false;
        }
    }

    private static boolean within(int number, int least, int most) {
        return number >= least && number <= most;
    }

    private void layOut(int sort, int a, int b, int c, int d) {
        switch (sort) {
            case COUNT:
                layOutCount(READ, a, b);
                layOutCount(WRITE, a, c);
                layOutCount(FAST, a, d);
                break;
            case GRID:
                layOutRows(a, b);
                layOutColumns(WRITE, a, b, 1);
                layOutColumns(FAST, a, b, d == 0 ? NONE : b - 1);
                break;
            case WEIGHTS:
                layOutWeights(READ, a, b);
                layOutWeights(WRITE, a, c);
                layOutWeights(FAST, a, d);
                break;
            default:
                layOutList(READ, a);
                layOutList(WRITE, b);
                layOutList(FAST, c);
                break;
        }
    }

    private void layOutCount(int kind, int among, int least) {
        for (int set = 0; set < SETS; set++) {
            trial[kind * SETS + set] = least > 0 && sizeOf(set & among) >= least;
        }
    }

    private void layOutRows(int rows, int columns) {
        for (int set = 0; set < SETS; set++) {
            boolean full = false;
            for (int i = 0; i < rows; i++) {
                int row = (1 << columns) - 1 << columns * i;
                full = full || (set & row) == row;
            }
            trial[READ * SETS + set] = full;
        }
    }

    /** A set is a quorum with at least so many full columns; with 0 the empty set is one, too, with NONE no set is. */
    private void layOutColumns(int kind, int rows, int columns, int least) {
        for (int set = 0; set < SETS; set++) {
            int full = 0;
            for (int j = 0; j < columns; j++) {
                int column = columnOf(rows, columns, j);
                full += (set & column) == column ? 1 : 0;
            }
            trial[kind * SETS + set] = least != NONE && full >= least;
        }
    }

    private static int columnOf(int rows, int columns, int j) {
        int column = 0;
        for (int i = 0; i < rows; i++) {
            column |= 1 << columns * i + j;
        }
        return column;
    }

    private void layOutWeights(int kind, int weights, int least) {
        for (int set = 0; set < SETS; set++) {
            int digits = weights;
            int weight = 0;
            for (int n = 0; n < NODES; n++) {
                weight += (set >> n & 1) * (digits % 10);
                digits /= 10;
            }
            trial[kind * SETS + set] = least > 0 && weight >= least;
        }
    }

    private void layOutList(int kind, int list) {
        for (int set = 0; set < SETS; set++) {
            boolean contains = false;
            for (int place = 0; place < LIST_LENGTH; place++) {
                int listed = list >> NODES * place & ALL_NODES;
                contains = contains || listed != 0 && (set & listed) == listed;
            }
            trial[kind * SETS + set] = contains;
        }
    }

    /**
     * Whatever contains a quorum is one, so some quorum misses a set just if all the nodes outside the set are one:
     * this saves the search through the second FAST quorum, and through the WRITE ones. If the set of all nodes
     * is no quorum there is none.
     */
    private boolean trialIsSound() {
        if (!trial[READ * SETS + ALL_NODES] || !trial[WRITE * SETS + ALL_NODES]) {
            return false;
        }
        for (int read = 0; read < SETS; read++) {
            if (trial[READ * SETS + read] && !trialReadIsSound(read)) {
                return false;
            }
        }
        return true;
    }

    private boolean trialReadIsSound(int read) {
        if (trial[WRITE * SETS + (ALL_NODES & ~read)]) {
            return false;
        }
        for (int fast = 0; fast < SETS; fast++) {
            if (trial[FAST * SETS + fast] && trial[FAST * SETS + (ALL_NODES & ~(read & fast))]) {
                return false;
            }
        }
        return true;
    }

    private int leastQuorum(int s, int kind) {
        int least = NONE;
        for (int set = 0; set < SETS; set++) {
            if (holds(s, kind, set)) {
                int size = sizeOf(set);
                least = lesser(least, size);
            }
        }
        return least;
    }

    private int mostLosses(int s, int kind) {
        if (!holds(s, kind, ALL_NODES)) {
            return NONE;
        }
        int most = NODES;
        for (int lost = 0; lost < SETS; lost++) {
            if (!holds(s, kind, ALL_NODES & ~lost)) {
                int size = sizeOf(lost);
                most = size <= most ? size - 1 : most;
            }
        }
        return most;
    }

    private int tightQuorums(int s, int kind) {
        int tight = 0;
        for (int set = 0; set < SETS; set++) {
            if (holds(s, kind, set) && isTight(s, kind, set)) {
                tight++;
            }
        }
        return tight;
    }

    private boolean isTight(int s, int kind, int set) {
        for (int n = 0; n < NODES; n++) {
            if ((set >> n & 1) == 1 && holds(s, kind, set & ~(1 << n))) {
                return false;
            }
        }
        return true;
    }

    // ---- ballots

    public int begin(int s, boolean fast) {
        if (!isSystem(s) || fast && !holds(s, FAST, ALL_NODES)) {
            return REFUSED;
        }
        if (begun == BALLOTS) {
            return FULL;
        }
        int base = greatestCompleted();
        begun++;
        systemOf[begun] = s;
        isFast[begun] = fast;
        baseOf[begun] = base;
        return begun;
    }

    public int pick(int b, int i, int v) {
        if (!isBallot(b) || !isInstance(i) || !isValue(v) || !mayPick(b, i)) {
            return REFUSED;
        }
        return settlePick(b, i, v);
    }

    public boolean complete(int b) {
        return isBallot(b) && finish(b);
    }

    public int ballot(int b, int what) {
        if (!isBallot(b) || !within(what, 0, 11)) {
            return REFUSED;
        }
        switch (what) {
            case 0:
                return systemOf[b];
            case 1:
                return isFast[b] ? 1 : 0;
            case 2:
                return baseOf[b];
            case 3:
                return answered[b];
            case 4:
                return readyWith(b, answered[b]) ? 1 : 0;
            case 5:
                return completed[b] ? 1 : 0;
            case 6:
            case 7:
            case 8:
                return picked[b * INSTANCES + what - 6];
            default:
                return wasFree[b * INSTANCES + what - 9] ? 1 : 0;
        }
    }

    public int answers(int b) {
        if (!isBallot(b)) {
            return REFUSED;
        }
        int open = 0;
        for (int n = 0; n < NODES; n++) {
            if ((answered[b] >> n & 1) == 0 && syncedPromise[n] < b) {
                open |= 1 << n;
            }
        }
        int least = NONE;
        for (int more = 0; more < SETS; more++) {
            if ((more & ~open) == 0 && readyWith(b, answered[b] | more)) {
                int size = sizeOf(more);
                least = lesser(least, size);
            }
        }
        return least;
    }

    private boolean isBallot(int b) {
        return b >= 1 && b <= begun;
    }

    private static boolean isInstance(int i) {
        return i >= 0 && i < INSTANCES;
    }

    private static boolean isValue(int v) {
        return v >= 1 && v <= VALUES;
    }

    private int greatestCompleted() {
        int greatest = 0;
        for (int b = 1; b <= begun; b++) {
            greatest = completed[b] ? b : greatest;
        }
        return greatest;
    }

    private boolean readyWith(int b, int set) {
        for (int c = baseOf[b] > 1 ? baseOf[b] : 1; c < b; c++) {
            if (!holds(systemOf[c], READ, set)) {
                return false;
            }
        }
        return true;
    }

    private boolean mayPick(int b, int i) {
        return picked[b * INSTANCES + i] == NONE && readyWith(b, answered[b]);
    }

    private int settlePick(int b, int i, int v) {
        int bound = boundValue(b, i);
        int cell = b * INSTANCES + i;
        wasFree[cell] = bound == NONE;
        if (bound != NONE) {
            picked[cell] = bound;
        } else {
            picked[cell] = isFast[b] ? ANY : v;
        }
        return picked[cell];
    }

    /** The value that earlier ballots leave to b for i, NONE if b is FREE there. */
    private int boundValue(int b, int i) {
        int latest = latestKept(b, i);
        if (latest == 0) {
            return NONE;
        }
        int value = picked[latest * INSTANCES + i];
        return value == ANY ? fastValue(b, i, latest) : value;
    }

    private int latestKept(int b, int i) {
        int latest = 0;
        for (int n = 0; n < NODES; n++) {
            int voteBallot = keptVote[b * NODE_VOTES + n * INSTANCES + i] / VALUE_CELLS;
            if (voteBallot >= baseOf[b] && voteBallot > latest) {
                latest = voteBallot;
            }
        }
        return latest;
    }

    private int fastValue(int b, int i, int k) {
        for (int v = 1; v <= VALUES; v++) {
            int set = ALL_NODES & ~answered[b];
            for (int n = 0; n < NODES; n++) {
                if (keptVote[b * NODE_VOTES + n * INSTANCES + i] == k * VALUE_CELLS + v) {
                    set |= 1 << n;
                }
            }
            if (holds(systemOf[k], FAST, set)) {
                return v;
            }
        }
        return NONE;
    }

    private boolean finish(int b) {
        if (completed[b] || !readyWith(b, answered[b])) {
            return false;
        }
        for (int i = 0; i < INSTANCES; i++) {
            if (!wasFree[b * INSTANCES + i] && !pickIsChosen(b, i)) {
                return false;
            }
        }
        completed[b] = true;
        return true;
    }

    /** A pick that is not FREE is a value; without a pick there is nothing to be CHOSEN. */
    private boolean pickIsChosen(int b, int i) {
        int v = picked[b * INSTANCES + i];
        if (!isValue(v)) {
            return false;
        }
        int cell = tallyCell(b, i, v);
        return enough(b, i, voted[cell]);
    }

    // ---- nodes

    public boolean power(int n, boolean up) {
        if (!isNode(n) || this.up[n] == up) {
            return false;
        }
        this.up[n] = up;
        if (!up) {
            loseQueue(n);
        }
        return true;
    }

    public boolean ask(int b, int n) {
        if (!isBallot(b) || !isNode(n) || !wouldAnswer(b, n)) {
            return false;
        }
        writeAnswer(b, n);
        return true;
    }

    public boolean vote(int b, int i, int n) {
        if (!isBallot(b) || !isInstance(i) || !isNode(n)) {
            return false;
        }
        int v = picked[b * INSTANCES + i];
        if (v == ANY || !wouldVote(b, i, n)) {
            return false;
        }
        writeVote(b, i, n, v);
        return true;
    }

    public boolean propose(int b, int i, int n, int v) {
        if (!isBallot(b) || !isInstance(i) || !isNode(n) || !isValue(v)) {
            return false;
        }
        if (picked[b * INSTANCES + i] != ANY || !wouldVote(b, i, n)) {
            return false;
        }
        writeVote(b, i, n, v);
        return true;
    }

    public int sync(int n, int k) {
        if (!isNode(n) || !within(k, 0, QUEUE_ROOM) || !up[n]) {
            return REFUSED;
        }
        int count = k < queueLength[n] ? k : queueLength[n];
        for (int done = 0; done < count; done++) {
            syncFirst(n);
        }
        return count;
    }

    public int node(int n, int what) {
        if (!isNode(n) || !within(what, 0, 9)) {
            return REFUSED;
        }
        switch (what) {
            case 0:
                return up[n] ? 1 : 0;
            case 1:
                return ownPromise[n];
            case 2:
            case 3:
            case 4:
                return ownVote[n * INSTANCES + what - 2];
            case 5:
                return syncedPromise[n];
            case 6:
            case 7:
            case 8:
                return syncedVote[n * INSTANCES + what - 6];
            default:
                return queueLength[n];
        }
    }

    private static boolean isNode(int n) {
        return n >= 0 && n < NODES;
    }

    private void loseQueue(int n) {
        queueLength[n] = 0;
        ownPromise[n] = syncedPromise[n];
        for (int i = 0; i < INSTANCES; i++) {
            ownVote[n * INSTANCES + i] = syncedVote[n * INSTANCES + i];
        }
    }

    private boolean canWrite(int n) {
        return up[n] && queueLength[n] < QUEUE_ROOM;
    }

    private boolean wouldAnswer(int b, int n) {
        return canWrite(n) && ownPromise[n] < b;
    }

    private boolean wouldVote(int b, int i, int n) {
        return canWrite(n) && canVote(b, i, ownPromise[n], ownVote[n * INSTANCES + i]);
    }

    private boolean canVote(int b, int i, int promise, int latestVote) {
        return picked[b * INSTANCES + i] != NONE && promise <= b && latestVote / VALUE_CELLS < b;
    }

    private void writeAnswer(int b, int n) {
        writeRecord(n, b, 0, 0);
        ownPromise[n] = b;
    }

    private void writeVote(int b, int i, int n, int v) {
        writeRecord(n, b, i, v);
        ownPromise[n] = b;
        ownVote[n * INSTANCES + i] = b * VALUE_CELLS + v;
    }

    private void writeRecord(int n, int b, int i, int v) {
        int cell = n * QUEUE_ROOM + queueLength[n];
        queueBallot[cell] = b;
        queueInstance[cell] = i;
        queueValue[cell] = v;
        queueLength[n]++;
    }

    private void syncFirst(int n) {
        int first = n * QUEUE_ROOM;
        int b = queueBallot[first];
        syncedPromise[n] = b;
        if (queueValue[first] == 0) {
            keepAnswer(b, n);
        } else {
            countVote(b, queueInstance[first], n, queueValue[first]);
        }
        dropFirst(n);
    }

    private void keepAnswer(int b, int n) {
        answered[b] |= 1 << n;
        for (int i = 0; i < INSTANCES; i++) {
            keptVote[b * NODE_VOTES + n * INSTANCES + i] = syncedVote[n * INSTANCES + i];
        }
    }

    private void countVote(int b, int i, int n, int v) {
        syncedVote[n * INSTANCES + i] = b * VALUE_CELLS + v;
        voted[tallyCell(b, i, v)] |= 1 << n;
    }

    private void dropFirst(int n) {
        int left = queueLength[n] - 1;
        queueLength[n] = left;
        for (int place = 0; place < left; place++) {
            int cell = n * QUEUE_ROOM + place;
            queueBallot[cell] = queueBallot[cell + 1];
            queueInstance[cell] = queueInstance[cell + 1];
            queueValue[cell] = queueValue[cell + 1];
        }
    }

    // ---- what has come of the votes

    public int tally(int b, int i, int v) {
        if (!isBallot(b) || !isInstance(i) || !isValue(v)) {
            return REFUSED;
        }
        return voted[tallyCell(b, i, v)];
    }

    public int chosen(int i) {
        return isInstance(i) ? leastEnough(voted, 0, i) : REFUSED;
    }

    public int possible(int i) {
        if (!isInstance(i)) {
            return REFUSED;
        }
        int values = 0;
        for (int b = 1; b <= begun; b++) {
            int open = openVoters(b, i);
            for (int v = 1; v <= VALUES; v++) {
                int cell = tallyCell(b, i, v);
                if (admits(b, i, v) && enough(b, i, open | voted[cell])) {
                    values |= 1 << v;
                }
            }
        }
        return values;
    }

    public int votes(int b, int i, int v) {
        if (!isBallot(b) || !isInstance(i) || !isValue(v)) {
            return REFUSED;
        }
        if (!admits(b, i, v)) {
            return NONE;
        }
        int least = NONE;
        int open = openVoters(b, i);
        int have = voted[tallyCell(b, i, v)];
        for (int more = 0; more < SETS; more++) {
            if ((more & ~open) == 0 && enough(b, i, have | more)) {
                int size = sizeOf(more);
                least = lesser(least, size);
            }
        }
        return least;
    }

    private static int tallyCell(int b, int i, int v) {
        return (b * INSTANCES + i) * VALUE_CELLS + v;
    }

    private boolean admits(int b, int i, int v) {
        int pick = picked[b * INSTANCES + i];
        return pick == v || pick == ANY;
    }

    /** Whether the votes of these nodes make a value CHOSEN in b: what b PICKED says which quorums count. */
    private boolean enough(int b, int i, int set) {
        int pick = picked[b * INSTANCES + i];
        return pick != NONE && holds(systemOf[b], pick == ANY ? FAST : WRITE, set);
    }

    /** The nodes that CAN VOTE in b for i for all others. */
    private int openVoters(int b, int i) {
        int open = 0;
        for (int n = 0; n < NODES; n++) {
            if (canVote(b, i, syncedPromise[n], syncedVote[n * INSTANCES + i])) {
                open |= 1 << n;
            }
        }
        return open;
    }

    /** The least value for i with a quorum in one ballot, by the sets in tallies from a cell on; 0 if there is none. */
    private int leastEnough(int[] tallies, int from, int i) {
        for (int v = 1; v <= VALUES; v++) {
            for (int b = 1; b <= begun; b++) {
                int cell = from + tallyCell(b, i, v);
                if (enough(b, i, tallies[cell])) {
                    return v;
                }
            }
        }
        return 0;
    }

    // ---- learners

    public int hear(int l, int n) {
        if (!isLearner(l) || !isNode(n) || !up[n]) {
            return REFUSED;
        }
        takeVotes(l, n);
        int count = 0;
        for (int i = 0; i < INSTANCES; i++) {
            count += leastEnough(known, l * TALLY_CELLS, i) != 0 ? 1 : 0;
        }
        return count;
    }

    public int learned(int l, int i) {
        if (!isLearner(l) || !isInstance(i)) {
            return REFUSED;
        }
        return leastEnough(known, l * TALLY_CELLS, i);
    }

    private static boolean isLearner(int l) {
        return l >= 0 && l < LEARNERS;
    }

    private void takeVotes(int l, int n) {
        for (int i = 0; i < INSTANCES; i++) {
            int latest = syncedVote[n * INSTANCES + i];
            if (latest != 0) {
                int cell = tallyCell(latest / VALUE_CELLS, i, latest % VALUE_CELLS);
                known[l * TALLY_CELLS + cell] |= 1 << n;
            }
        }
    }

    // ---- drive

    public int drive(int b, int v, int n) {
        if (!isBallot(b) || !isValue(v) || !within(n, 0, MOST_STEPS)) {
            return REFUSED;
        }
        for (int done = 0; done < n; done++) {
            if (!driveSync() && !driveAnswer(b) && !drivePick(b, v) && !driveVote(b, v) && !finish(b)) {
                return done;
            }
        }
        return n;
    }

    private boolean driveSync() {
        for (int n = 0; n < NODES; n++) {
            if (up[n] && queueLength[n] > 0) {
                syncFirst(n);
                return true;
            }
        }
        return false;
    }

    private boolean driveAnswer(int b) {
        if (readyWith(b, answered[b])) {
            return false;
        }
        for (int n = 0; n < NODES; n++) {
            if (wouldAnswer(b, n)) {
                writeAnswer(b, n);
                return true;
            }
        }
        return false;
    }

    private boolean drivePick(int b, int v) {
        for (int i = 0; i < INSTANCES; i++) {
            if (mayPick(b, i)) {
                settlePick(b, i, v);
                return true;
            }
        }
        return false;
    }

    private boolean driveVote(int b, int v) {
        for (int i = 0; i < INSTANCES; i++) {
            int pick = picked[b * INSTANCES + i];
            for (int n = 0; n < NODES; n++) {
                if (wouldVote(b, i, n)) {
                    writeVote(b, i, n, pick == ANY ? v : pick);
                    return true;
                }
            }
        }
        return false;
    }
}
