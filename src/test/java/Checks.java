import java.util.Arrays;
import java.util.function.Consumer;
import java.util.function.Supplier;

/** What the tests of the promises share: the words of the document, checks of answers, and desks to begin with. */
abstract class Checks {
    static final int REFUSED = -1, FULL = -2, NONE = -3;
    static final int READ = 0, WRITE = 1, FAST = 2;
    static final int COUNT = 0, GRID = 1, WEIGHTS = 2, LISTS = 3;
    /** Far outside of all ranges; some would fall into one if a sum, a product or a shift wrapped around. */
    static final int[] FAR = {Integer.MIN_VALUE, Integer.MIN_VALUE + 1, -65536, -1000, -32, 32, 33, 256, 1000, 65536,
        1 << 29, 1 << 30, Integer.MAX_VALUE};
    static String part = "";
    private static int wrong = 0;
    private static int sentences = 0;

    /** One sentence of the document that names a boundary case, and the calls that would tell if it were broken. */
    static void sentence(String words, Runnable calls) {
        part = words;
        sentences++;
        try {
            calls.run();
        } catch (RuntimeException thrown) {
            wrong++;
            System.out.println(part + ": " + thrown);
        }
    }

    static void end() {
        String asked = sentences == 0 ? "all promises hold" : "all " + sentences + " sentences hold";
        System.out.println(wrong == 0 ? asked : wrong + " answers are not as due");
        if (wrong != 0) System.exit(1);
    }

    static void due(String what, int got, int want) {
        if (got != want) {
            wrong++;
            System.out.println(part + ": " + what + " answered " + got + ", due is " + want);
        }
    }

    static void due(String what, boolean got, boolean want) {
        due(what, got ? 1 : 0, want ? 1 : 0);
    }

    static void yes(String what, boolean got) {
        due(what, got, true);
    }

    static void no(String what, boolean got) {
        due(what, got, false);
    }

    /** Numbers just outside of a range, and far from it. */
    static int[] outside(int least, int most) {
        int[] all = Arrays.copyOf(FAR, FAR.length + 2);
        all[FAR.length] = least - 1;
        all[FAR.length + 1] = most + 1;
        return Arrays.stream(all).filter(number -> number < least || number > most).toArray();
    }

    /** Three nodes 0..2, any two of them are READ and WRITE quorums, all three a FAST one. */
    static BallotDesk three() {
        BallotDesk x = new BallotDesk();
        yes("define three", x.define(0, COUNT, 7, 2, 2, 3));
        return x;
    }

    /** The same with so many ballots, none of them FAST. */
    static BallotDesk three(int ballots) {
        BallotDesk x = three();
        for (int b = 1; b <= ballots; b++) due("begin", x.begin(0, false), b);
        return x;
    }

    /** Four nodes, any three of them are a quorum of each kind: ballot 1 is FAST and has PICKED ANY for INSTANCE 0. */
    static BallotDesk fastFour() {
        BallotDesk x = new BallotDesk();
        yes("define four", x.define(0, COUNT, 15, 3, 3, 3));
        due("fast", x.begin(0, true), 1);
        due("any", x.pick(1, 0, 1), 0);
        due("begin", x.begin(0, false), 2);
        return x;
    }

    static void answer(BallotDesk x, int b, int... nodes) {
        for (int n : nodes) {
            yes("ask " + b + " " + n, x.ask(b, n));
            due("sync " + n, x.sync(n, 6), 1);
        }
    }

    static void voteSynced(BallotDesk x, int b, int i, int... nodes) {
        for (int n : nodes) {
            yes("vote " + b + " " + i + " " + n, x.vote(b, i, n));
            due("sync " + n, x.sync(n, 6), 1);
        }
    }

    static void proposeSynced(BallotDesk x, int b, int i, int v, int... nodes) {
        for (int n : nodes) {
            yes("propose " + b + " " + i + " " + n + " " + v, x.propose(b, i, n, v));
            due("sync " + n, x.sync(n, 6), 1);
        }
    }

    static void pickAll(BallotDesk x, int b, int v) {
        for (int i = 0; i < 3; i++) due("pick all " + b + " " + i, x.pick(b, i, v), v);
    }

    /**
     * That calls leave no trace: all that can be seen of two desks that were made alike, of which one got the calls.
     * With at most four ballots this stays within the 512 calls of an object.
     */
    static void unchanged(Supplier<BallotDesk> made, Consumer<BallotDesk> calls) {
        BallotDesk without = made.get();
        BallotDesk with = made.get();
        calls.accept(with);
        String want = face(without);
        String got = face(with);
        yes("nothing changes: " + got + " is as " + want, got.equals(want));
    }

    private static String face(BallotDesk x) {
        StringBuilder seen = new StringBuilder();
        for (int n = 0; n < 7; n++) {
            for (int what = 0; what < 10; what++) seen.append(x.node(n, what)).append(' ');
        }
        for (int b = 1; b <= 4 && x.ballot(b, 0) != REFUSED; b++) faceOfBallot(x, b, seen.append(" ballot "));
        for (int i = 0; i < 3; i++) {
            seen.append(" instance ").append(x.chosen(i)).append(' ').append(x.possible(i));
            seen.append(' ').append(x.learned(0, i)).append(' ').append(x.learned(1, i));
        }
        for (int s = 0; s < 4; s++) {
            for (int at = 0; at < 9; at++) seen.append(' ').append(x.system(s, at / 3, at % 3));
        }
        return seen.toString();
    }

    private static void faceOfBallot(BallotDesk x, int b, StringBuilder seen) {
        for (int what = 0; what < 12; what++) seen.append(x.ballot(b, what)).append(' ');
        seen.append(x.answers(b));
        for (int i = 0; i < 3; i++) {
            for (int v = 1; v <= 7; v++) {
                seen.append(' ').append(x.tally(b, i, v)).append(' ').append(x.votes(b, i, v));
            }
        }
    }
}
