import java.util.Random;

/**
 * What the first line of the document says: nodes agree on values, whatever is late or lost. Random calls from fixed
 * seeds, with SYSTEMS that differ from ballot to ballot: never are two values CHOSEN for an INSTANCE, what a learner
 * LEARNS is CHOSEN, and what is CHOSEN is POSSIBLE; and a new ballot that is driven with all nodes UP comes to its end.
 * No model is needed for this. An object gets at most 512 calls.
 */
public final class AgreementTest {
    private static final int RUNS = 30000, STEPS = 190, BALLOTS = 12;
    /** Sort and numbers of SYSTEMS that are SOUND, many of them just so. */
    private static final int[][] SOUND = {
        {0, 7, 2, 2, 3}, {0, 15, 2, 3, 4}, {0, 15, 3, 2, 3}, {0, 15, 3, 3, 3}, {0, 31, 3, 3, 4}, {0, 31, 2, 4, 5},
        {0, 1, 1, 1, 1}, {0, 6, 1, 2, 2}, {1, 2, 3, 0, 0}, {1, 1, 3, 0, 1}, {1, 2, 2, 0, 0}, {1, 1, 4, 0, 5},
        {1, 7, 1, 0, 0}, {2, 1111, 3, 2, 3}, {2, 2111, 3, 3, 4}, {2, 111, 2, 2, 3}, {3, 3, 1 + 128 * 2, 3, 0},
        {3, 3 + 128 * 5 + 128 * 128 * 6, 3 + 128 * 5 + 128 * 128 * 6, 7, 0}, {3, 7, 1, 1, 0}};
    private static int wrong = 0;

    public static void main(String[] args) {
        int chosen = 0;
        int learned = 0;
        for (int run = 0; run < RUNS && wrong < 10; run++) {
            BallotDesk desk = new BallotDesk();
            Random chance = new Random(run);
            defineSystems(desk, chance, run);
            int begun = 0;
            for (int step = 0; step < STEPS; step++) begun = doOne(desk, chance, begun);
            bringToEnd(desk, chance, run);
            for (int i = 0; i < 3; i++) {
                lookAt(desk, i, run);
                chosen += desk.chosen(i) > 0 ? 1 : 0;
                learned += desk.learned(0, i) > 0 ? 1 : 0;
            }
        }
        // Runs in which nothing comes about would show nothing.
        if (wrong == 0 && (chosen < RUNS / 4 || learned < RUNS / 40)) {
            tell("chosen just " + chosen + " times, learned " + learned);
        }
        System.out.println(wrong == 0 ? "nodes agree: " + chosen + " chosen, " + learned + " learned" : "no agreement");
        if (wrong != 0) System.exit(1);
    }

    private static void tell(String what) {
        wrong++;
        System.out.println(what);
    }

    private static void defineSystems(BallotDesk desk, Random chance, int run) {
        for (int s = 0; s < 4; s++) {
            int[] x = SOUND[chance.nextInt(SOUND.length)];
            if (!desk.define(s, x[0], x[1], x[2], x[3], x[4])) tell("run " + run + ": a SOUND system is not taken");
        }
    }

    /** Mostly it goes on with the last ballot, but earlier ones are late, not over. Answers how many are begun then. */
    private static int doOne(BallotDesk desk, Random chance, int begun) {
        int kind = chance.nextInt(100);
        if (kind < 5 || begun == 0) return Math.max(begun, desk.begin(chance.nextInt(4), chance.nextInt(3) > 0));
        int n = chance.nextInt(5);
        int i = chance.nextInt(3);
        int v = 1 + chance.nextInt(3);
        int b = chance.nextInt(3) > 0 ? begun : 1 + chance.nextInt(begun);
        if (kind < 9) desk.power(n, chance.nextInt(4) > 0);
        else if (kind < 28) desk.ask(b, n);
        else if (kind < 38) desk.pick(b, i, v);
        else if (kind < 50) desk.vote(b, i, n);
        else if (kind < 64) desk.propose(b, i, n, v);
        else if (kind < 80) desk.sync(n, chance.nextInt(7));
        else if (kind < 84) desk.complete(b);
        else if (kind < 88) desk.hear(chance.nextInt(2), n);
        else desk.drive(b, v, chance.nextInt(10));
        return begun;
    }

    /** In a ballot above all others nothing is in the way of a node: drive has all of them VOTE, and COMPLETES it. */
    private static void bringToEnd(BallotDesk desk, Random chance, int run) {
        int s = chance.nextInt(4);
        int b = desk.begin(s, desk.system(s, 2, 0) > 0);
        // Half of the runs stay as they are: there, things that are late or lost have the last word.
        if (b < 0 || chance.nextBoolean()) return;
        for (int n = 0; n < 7; n++) desk.power(n, true);
        int v = 1 + chance.nextInt(7);
        for (int more = 0; more < 3; more++) desk.drive(b, v, 60);
        if (desk.ballot(b, 5) != 1) tell("run " + run + ": ballot " + b + " is not COMPLETED");
        for (int i = 0; i < 3; i++) {
            if (desk.chosen(i) == 0) tell("run " + run + ", INSTANCE " + i + ": nothing is CHOSEN");
        }
    }

    private static void lookAt(BallotDesk desk, int i, int run) {
        int values = 0;
        for (int b = 1; b <= BALLOTS; b++) {
            for (int v = 1; v <= 7; v++) values |= desk.votes(b, i, v) == 0 ? 1 << v : 0;
        }
        String where = "run " + run + ", INSTANCE " + i + ": ";
        if (Integer.bitCount(values) > 1) tell(where + "two are CHOSEN, " + Integer.toBinaryString(values));
        if (values != (desk.chosen(i) == 0 ? 0 : 1 << desk.chosen(i))) tell(where + "chosen is " + desk.chosen(i));
        if ((values & ~desk.possible(i)) != 0) tell(where + "CHOSEN and not POSSIBLE");
        for (int l = 0; l < 2; l++) {
            int v = desk.learned(l, i);
            if (v != 0 && (values >> v & 1) == 0) tell(where + "learner " + l + " LEARNS " + v);
        }
    }
}
