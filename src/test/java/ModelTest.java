import java.util.ArrayDeque;
import java.util.Deque;
import java.util.Random;

/** The same calls on BallotDesk and on the model, from fixed seeds; at the end of some runs all that can be seen. */
public final class ModelTest {
    /** What an object answers after 512 calls is free; the last look at all takes fewer than 340 of them. */
    private static final int RUNS = 1500, CALLS = 512, LAST_LOOK = 340;
    private static int wrong = 0;

    private Random random;
    private BallotDesk desk;
    private BallotDeskModel model;
    private int begun;
    private final Deque<String> calls = new ArrayDeque<>();
    private boolean same = true;

    public static void main(String[] args) {
        ModelTest test = new ModelTest();
        for (int seed = 1; seed <= RUNS && wrong < 5; seed++) test.run(seed);
        System.out.println(wrong == 0 ? "desk and model agree" : wrong + " runs differ");
        if (wrong != 0) System.exit(1);
    }

    private void run(int seed) {
        random = new Random(seed);
        desk = new BallotDesk();
        model = new BallotDeskModel();
        begun = 0;
        same = true;
        calls.clear();
        for (int s = 0; s < 4; s++) define(s);
        boolean lookLast = seed % 3 != 0;
        // A step takes a few calls, and a new SYSTEM six.
        int most = lookLast ? CALLS - LAST_LOOK : CALLS - 10;
        while (calls.size() < most && same) {
            change();
            look();
        }
        if (lookLast) lookAtAll();
        if (calls.size() > CALLS) due("calls", calls.size(), CALLS);
        if (!same) {
            wrong++;
            System.out.println("seed " + seed + ": " + String.join("; ", calls));
        }
    }

    private void due(String call, int got, int want) {
        calls.add(call + " = " + got);
        if (got != want && same) {
            same = false;
            calls.add("due is " + want);
        }
    }

    private void due(String call, boolean got, boolean want) {
        due(call, got ? 1 : 0, want ? 1 : 0);
    }

    /** Mostly from least to most, now and then just outside. */
    private int number(int least, int most) {
        if (random.nextInt(60) == 0) return random.nextBoolean() ? least - 1 : most + 1;
        return least + random.nextInt(Math.max(1, most - least + 1));
    }

    private int ballotNumber() {
        return random.nextInt(3) == 0 ? number(1, begun) : Math.max(1, begun - random.nextInt(2));
    }

    private int value() {
        return random.nextInt(3) == 0 ? number(1, 7) : 1 + random.nextInt(2);
    }

    private void define(int s) {
        for (int attempt = 0; attempt < 6; attempt++) {
            int sort = number(0, 3), a, b, c, d;
            if (sort == 1) {
                a = number(1, 3);
                b = number(1, 3);
                c = number(-9, 9);
                d = number(0, 1);
            } else if (sort == 2) {
                a = random.nextInt(10000000);
                b = number(1, 63);
                c = number(1, 63);
                d = random.nextInt(2) * number(1, 63);
            } else if (sort == 3) {
                a = random.nextInt(268435456) | random.nextInt(268435456);
                b = random.nextInt(268435456) | random.nextInt(268435456);
                c = random.nextBoolean() ? 0 : random.nextInt(268435456) | random.nextInt(268435456);
                d = number(-9, 9);
            } else {
                a = random.nextBoolean() ? 127 : number(1, 127);
                int size = Integer.bitCount(a & 127);
                b = random.nextBoolean() ? size / 2 + 1 : number(1, 7);
                c = random.nextBoolean() ? size / 2 + 1 : number(1, 7);
                d = random.nextBoolean() ? size - size / 4 : number(0, 7);
            }
            String call = "define(" + s + ", " + sort + ", " + a + ", " + b + ", " + c + ", " + d + ")";
            due(call, desk.define(s, sort, a, b, c, d), model.define(s, sort, a, b, c, d));
        }
    }

    private void change() {
        int b = ballotNumber(), i = number(0, 2), n = number(0, 6), v = value(), k = number(0, 6);
        boolean yes = random.nextInt(3) != 0;
        switch (random.nextInt(20)) {
            case 0:
                if (random.nextInt(20) == 0) define(random.nextInt(4));
                int s = number(0, 3);
                if (begun >= 2 && random.nextInt(3) != 0) break;
                begin(s, yes);
                break;
            case 1:
                if (random.nextInt(4) == 0) due("power(" + n + ", " + yes + ")", desk.power(n, yes), model.power(n, yes));
                break;
            case 2: case 3: case 4: case 5:
                due("ask(" + b + ", " + n + ")", desk.ask(b, n), model.ask(b, n));
                break;
            case 6: case 7: case 8:
                due("pick(" + b + ", " + i + ", " + v + ")", desk.pick(b, i, v), model.pick(b, i, v));
                break;
            case 9: case 10:
                due("vote(" + b + ", " + i + ", " + n + ")", desk.vote(b, i, n), model.vote(b, i, n));
                break;
            case 11: case 12:
                due("propose(" + b + ", " + i + ", " + n + ", " + v + ")", desk.propose(b, i, n, v), model.propose(b, i, n, v));
                break;
            case 13: case 14: case 15:
                due("sync(" + n + ", " + k + ")", desk.sync(n, k), model.sync(n, k));
                break;
            case 16:
                due("complete(" + b + ")", desk.complete(b), model.complete(b));
                break;
            case 17: case 18:
                hear(number(0, 1), n);
                break;
            default:
                int steps = random.nextInt(4) == 0 ? number(0, 60) : number(0, 8);
                due("drive(" + b + ", " + v + ", " + steps + ")", desk.drive(b, v, steps), model.drive(b, v, steps));
        }
        if (begun == 0 || random.nextInt(25) == 0) begin(random.nextInt(4), random.nextBoolean());
    }

    private void begin(int s, boolean fast) {
        int got = desk.begin(s, fast);
        due("begin(" + s + ", " + fast + ")", got, model.begin(s, fast));
        if (got > 0) begun = got;
    }

    private void hear(int l, int n) {
        due("hear(" + l + ", " + n + ")", desk.hear(l, n), model.hear(l, n));
    }

    private void look() {
        int b = ballotNumber(), i = number(0, 2), v = value(), n = number(0, 6), what = number(0, 11);
        switch (random.nextInt(8)) {
            case 0: due("answers(" + b + ")", desk.answers(b), model.answers(b)); break;
            case 1: due("votes(" + b + ", " + i + ", " + v + ")", desk.votes(b, i, v), model.votes(b, i, v)); break;
            case 2: due("possible(" + i + ")", desk.possible(i), model.possible(i)); break;
            case 3: due("chosen(" + i + ")", desk.chosen(i), model.chosen(i)); break;
            case 4: due("tally(" + b + ", " + i + ", " + v + ")", desk.tally(b, i, v), model.tally(b, i, v)); break;
            case 5: due("node(" + n + ", " + what + ")", desk.node(n, what), model.node(n, what)); break;
            case 6: due("ballot(" + b + ", " + what + ")", desk.ballot(b, what), model.ballot(b, what)); break;
            default:
                int l = number(0, 1);
                due("learned(" + l + ", " + i + ")", desk.learned(l, i), model.learned(l, i));
        }
    }

    private void lookAtAll() {
        for (int n = -1; n <= 7; n++) {
            for (int what = -1; what <= 10; what++) due("node(" + n + ", " + what + ")", desk.node(n, what), model.node(n, what));
        }
        for (int b = 0; b <= begun + 1; b++) {
            for (int what = -1; what <= 12; what++) due("ballot(" + b + ", " + what + ")", desk.ballot(b, what), model.ballot(b, what));
            due("answers(" + b + ")", desk.answers(b), model.answers(b));
        }
        for (int call = 0; call < 4; call++) {
            int s = number(0, 3), kind = number(0, 2), t = number(0, 3), other = number(0, 2), set = number(0, 127);
            due("quorum(" + s + ", " + kind + ", " + set + ")", desk.quorum(s, kind, set), model.quorum(s, kind, set));
            int what = number(0, 2);
            due("system(" + s + ", " + kind + ", " + what + ")", desk.system(s, kind, what), model.system(s, kind, what));
            due("common(" + s + ", " + kind + ", " + t + ", " + other + ")", desk.common(s, kind, t, other), model.common(s, kind, t, other));
        }
    }
}
