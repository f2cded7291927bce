/**
 * The boundary cases that promises 1, 5 to 19 and 21 to 24 name, each sentence with a test of its own; those of
 * promises 2 to 4 and 20 are in QuorumBoundaryTest.
 */
public final class PromiseBoundaryTest extends Checks {
    public static void main(String[] args) {
        sentence("Promise 1: no SYSTEMS", PromiseBoundaryTest::newHasNoSystems);
        sentence("Promise 1: no ballots", PromiseBoundaryTest::newHasNoBallots);
        sentence("Promise 1: all nodes UP", PromiseBoundaryTest::newNodesAreUp);
        sentence("Promise 5: REFUSED if there is no such SYSTEM", PromiseBoundaryTest::beginWithoutSystem);
        sentence("Promise 5: REFUSED if fast, and it has no FAST quorum", PromiseBoundaryTest::beginWithoutFast);
        sentence("Promise 5: FULL with 12", PromiseBoundaryTest::beginFull);
        sentence("Promise 6: false if there is none", PromiseBoundaryTest::powerOfNone);
        sentence("Promise 6: false if it is so already", PromiseBoundaryTest::powerAlready);
        sentence("Promise 7: whether it writes an ANSWER", PromiseBoundaryTest::askWritesNone);
        sentence("Promise 7: false also if there is no such ballot or node", PromiseBoundaryTest::askNone);
        sentence("Promise 8: v must be 1..7, needed or not", PromiseBoundaryTest::pickNeedsValue);
        sentence("Promise 8: the value, or 0 for ANY", PromiseBoundaryTest::pickAnswers);
        sentence("Promise 8: REFUSED if there is no such ballot or INSTANCE", PromiseBoundaryTest::pickNone);
        sentence("Promise 8: REFUSED if it is not READY", PromiseBoundaryTest::pickNotReady);
        sentence("Promise 8: REFUSED if it PICKED there already", PromiseBoundaryTest::pickAlready);
        sentence("Promise 9: false if there is no such ballot, INSTANCE or node", PromiseBoundaryTest::voteNone);
        sentence("Promise 9: false if b PICKED ANY", PromiseBoundaryTest::voteAny);
        sentence("Promise 9: false if the node writes none", PromiseBoundaryTest::voteWritesNone);
        sentence("Promise 10: false if v is not 1..7", PromiseBoundaryTest::proposeNoValue);
        sentence("Promise 10: false if b did not PICK ANY", PromiseBoundaryTest::proposeNotAny);
        sentence("Promise 10: false likewise", PromiseBoundaryTest::proposeLikewise);
        sentence("Promise 11: the first k (0..6) records", PromiseBoundaryTest::syncCounts);
        sentence("Promise 11: or as many as there are", PromiseBoundaryTest::syncAsMany);
        sentence("Promise 11: REFUSED if there is no such node or k", PromiseBoundaryTest::syncNone);
        sentence("Promise 11: REFUSED if it is DOWN", PromiseBoundaryTest::syncDown);
        sentence("Promise 12: false if there is none", PromiseBoundaryTest::completeNone);
        sentence("Promise 12: false if it was COMPLETED", PromiseBoundaryTest::completeAgain);
        sentence("Promise 12: false, and nothing changes, if it may not be", PromiseBoundaryTest::completeMayNot);
        sentence("Promise 13: of how many INSTANCES it LEARNS a value", PromiseBoundaryTest::hearCounts);
        sentence("Promise 13: REFUSED if there is no such learner or node", PromiseBoundaryTest::hearNone);
        sentence("Promise 13: REFUSED if it is DOWN", PromiseBoundaryTest::hearDown);
        sentence("Promise 14: 0 if none", PromiseBoundaryTest::nodeNothing);
        sentence("Promise 14: REFUSED if there is none, or for others", PromiseBoundaryTest::nodeRefused);
        sentence("Promise 15: NONE if nothing, 0 ANY", PromiseBoundaryTest::ballotPicks);
        sentence("Promise 15: 1 if it was FREE there, else 0", PromiseBoundaryTest::ballotFree);
        sentence("Promise 15: the set of those that ANSWERED", PromiseBoundaryTest::ballotAnswers);
        sentence("Promise 15: REFUSED if there is none, or for others", PromiseBoundaryTest::ballotRefused);
        sentence("Promise 16: the set of nodes that ever VOTED", PromiseBoundaryTest::tallyEdges);
        sentence("Promise 16: REFUSED if there is none such", PromiseBoundaryTest::tallyRefused);
        sentence("Promise 17: 0 if there is none", PromiseBoundaryTest::chosenNone);
        sentence("Promise 17: REFUSED if there is no such INSTANCE", PromiseBoundaryTest::chosenRefused);
        sentence("Promise 18: the sum of 2 to the power v", PromiseBoundaryTest::possibleSums);
        sentence("Promise 18: REFUSED if there is no such INSTANCE", PromiseBoundaryTest::possibleRefused);
        sentence("Promise 19: 0 if there is none", PromiseBoundaryTest::learnedNone);
        sentence("Promise 19: REFUSED if there is no such learner or INSTANCE", PromiseBoundaryTest::learnedRefused);
        sentence("Promise 21: of those whose PROMISE for all others is below b", PromiseBoundaryTest::answersOpen);
        sentence("Promise 21: UP or DOWN", PromiseBoundaryTest::answersDown);
        sentence("Promise 21: 0 if it is", PromiseBoundaryTest::answersReady);
        sentence("Promise 21: NONE if all of these would not do", PromiseBoundaryTest::answersNone);
        sentence("Promise 21: REFUSED if there is no such ballot", PromiseBoundaryTest::answersRefused);
        sentence("Promise 22: of those that CAN VOTE there for all others", PromiseBoundaryTest::votesOpen);
        sentence("Promise 22: UP or DOWN", PromiseBoundaryTest::votesDown);
        sentence("Promise 22: 0 if it is", PromiseBoundaryTest::votesChosen);
        sentence("Promise 22: NONE if all of these would not do", PromiseBoundaryTest::votesNone);
        sentence("Promise 22: NONE if b PICKED nothing there, or another value", PromiseBoundaryTest::votesNotPicked);
        sentence("Promise 22: REFUSED", PromiseBoundaryTest::votesRefused);
        sentence("Promise 23: n times (0..60)", PromiseBoundaryTest::driveTimes);
        sentence("Promise 23: the least node that is UP and has a QUEUE SYNCS", PromiseBoundaryTest::driveSyncs);
        sentence("Promise 23: if b is not READY the least node is ASKED", PromiseBoundaryTest::driveAsks);
        sentence("Promise 23: b PICKS for the least INSTANCE", PromiseBoundaryTest::drivePicks);
        sentence("Promise 23: for what b PICKED, or for v if that is ANY", PromiseBoundaryTest::driveVotes);
        sentence("Promise 23: b is COMPLETED", PromiseBoundaryTest::driveCompletes);
        sentence("Promise 23: it stops where none can be", PromiseBoundaryTest::driveStops);
        sentence("Promise 23: REFUSED", PromiseBoundaryTest::driveRefused);
        sentence("Promise 24: begin: REFUSED is tested before FULL", PromiseBoundaryTest::refusedBeforeFull);
        sentence("Promise 24: ANY: a WRITE one is not enough", PromiseBoundaryTest::writeIsNotFast);
        sentence("Promise 24: a value: just WRITE ones", PromiseBoundaryTest::fastIsNotWrite);
        sentence("Promise 24: the INSTANCE goes before the node", PromiseBoundaryTest::instanceFirst);
        end();
    }

    private static void newHasNoSystems() {
        BallotDesk x = new BallotDesk();
        for (int s = 0; s < 4; s++) {
            due("quorum", x.quorum(s, READ, 127), REFUSED);
            due("system", x.system(s, FAST, 2), REFUSED);
            due("begin", x.begin(s, false), REFUSED);
            due("common", x.common(s, READ, s, WRITE), REFUSED);
        }
        yes("one of another desk", three().begin(0, true) == 1);
        due("is none of this", x.begin(0, true), REFUSED);
    }

    private static void newHasNoBallots() {
        BallotDesk x = three();
        for (int b = 0; b <= 13; b++) {
            due("ballot " + b, x.ballot(b, 0), REFUSED);
            due("answers " + b, x.answers(b), REFUSED);
            no("complete " + b, x.complete(b));
            no("ask " + b, x.ask(b, 0));
        }
        for (int i = 0; i < 3; i++) {
            due("chosen", x.chosen(i), 0);
            due("possible", x.possible(i), 0);
            due("learned", x.learned(0, i) + x.learned(1, i), 0);
        }
        due("hear", x.hear(0, 0), 0);
        due("the first is 1", x.begin(0, false), 1);
    }

    private static void newNodesAreUp() {
        BallotDesk x = new BallotDesk();
        for (int n = 0; n < 7; n++) {
            due("node " + n, x.node(n, 0), 1);
            yes("down " + n, x.power(n, false));
        }
        for (int n = 0; n < 7; n++) due("another desk " + n, new BallotDesk().node(n, 0), 1);
    }

    private static void beginWithoutSystem() {
        BallotDesk x = new BallotDesk();
        due("none at all", x.begin(0, false), REFUSED);
        no("one that is not taken", x.define(0, COUNT, 7, 1, 1, 0));
        due("is none", x.begin(0, false), REFUSED);
        unchanged(Checks::three, y -> {
            for (int s : outside(0, 0)) {
                due("begin " + s, y.begin(s, false), REFUSED);
                due("begin fast " + s, y.begin(s, true), REFUSED);
            }
        });
    }

    private static void beginWithoutFast() {
        BallotDesk x = three();
        yes("d 0", x.define(1, COUNT, 7, 2, 2, 0));
        yes("d too great", x.define(2, COUNT, 7, 2, 2, 4));
        yes("one FAST quorum", x.define(3, LISTS, 64, 64, 64, 0));
        due("d 0", x.begin(1, true), REFUSED);
        due("d too great", x.begin(2, true), REFUSED);
        due("no number was used up", x.begin(3, true), 1);
        due("not fast it may be", x.begin(1, false), 2);
        due("not fast it may be", x.begin(2, false), 3);
        due("fast or not", x.begin(3, false), 4);
        int[] fast = {1, 0, 0, 0};
        for (int b = 1; b <= 4; b++) due("fast " + b, x.ballot(b, 1), fast[b - 1]);
    }

    private static void beginFull() {
        BallotDesk x = three();
        for (int b = 1; b <= 11; b++) due("begin", x.begin(0, false), b);
        due("the twelfth", x.begin(0, true), 12);
        due("it is fast", x.ballot(12, 1), 1);
        due("the thirteenth", x.begin(0, false), FULL);
        due("the thirteenth, fast", x.begin(0, true), FULL);
        due("there is none", x.ballot(13, 0), REFUSED);
        due("the twelfth is as it was", x.ballot(12, 1), 1);
        pickAll(x, 1, 1);
        yes("completed", x.complete(1));
        due("that makes no room", x.begin(0, false), FULL);
        due("nor is it the base of one", x.ballot(12, 2), 0);
    }

    private static void powerOfNone() {
        unchanged(Checks::three, x -> {
            for (int n : outside(0, 6)) {
                no("down " + n, x.power(n, false));
                no("up " + n, x.power(n, true));
            }
        });
    }

    private static void powerAlready() {
        BallotDesk x = three(2);
        for (int n = 0; n < 7; n += 6) {
            yes("ask", x.ask(2, n));
            no("up already", x.power(n, true));
            due("its queue is not lost", x.node(n, 9), 1);
            yes("down", x.power(n, false));
            no("down already", x.power(n, false));
            due("down", x.node(n, 0), 0);
            yes("up", x.power(n, true));
            no("up already", x.power(n, true));
            due("up", x.node(n, 0), 1);
            due("the queue is empty", x.node(n, 9), 0);
        }
    }

    private static void askWritesNone() {
        unchanged(PromiseBoundaryTest::busy, x -> {
            no("down", x.ask(4, 3));
            no("promise is 4", x.ask(4, 4));
            no("promise is above", x.ask(3, 4));
            no("full", x.ask(4, 5));
        });
        BallotDesk x = busy();
        yes("promise is 3, below 4", x.ask(4, 0));
        due("for itself", x.node(0, 1), 4);
    }

    /** Four ballots, 3 of them have PICKED; node 3 is DOWN, node 4 has ANSWERED 4, the QUEUE of node 5 is full. */
    private static BallotDesk busy() {
        BallotDesk x = three(4);
        pickAll(x, 1, 7);
        answer(x, 2, 0, 1);
        pickAll(x, 2, 6);
        answer(x, 3, 0, 1);
        pickAll(x, 3, 5);
        yes("down", x.power(3, false));
        yes("ask", x.ask(4, 4));
        due("sync", x.sync(4, 1), 1);
        for (int b = 1; b <= 2; b++) {
            for (int i = 0; i < 3; i++) yes("vote", x.vote(b, i, 5));
        }
        return x;
    }

    private static void askNone() {
        unchanged(() -> three(2), x -> {
            for (int b : outside(1, 2)) no("ballot " + b, x.ask(b, 0));
            for (int n : outside(0, 6)) no("node " + n, x.ask(1, n));
        });
    }

    private static void pickNeedsValue() {
        unchanged(() -> three(1), x -> {
            for (int v : outside(1, 7)) due("free " + v, x.pick(1, 0, v), REFUSED);
        });
        unchanged(Checks::fastFour, x -> {
            for (int v : outside(1, 7)) due("any " + v, x.pick(1, 1, v), REFUSED);
        });
        BallotDesk x = three(2);
        pickAll(x, 1, 6);
        voteSynced(x, 1, 0, 0);
        answer(x, 2, 0, 1);
        for (int v : outside(1, 7)) due("bound " + v, x.pick(2, 0, v), REFUSED);
        due("nothing picked", x.ballot(2, 6), NONE);
        due("not needed", x.pick(2, 0, 7), 6);
        due("least", x.pick(2, 1, 1), 1);
        due("greatest", x.pick(2, 2, 7), 7);
    }

    private static void pickAnswers() {
        BallotDesk x = three(1);
        due("fast", x.begin(0, true), 2);
        due("least", x.pick(1, 0, 1), 1);
        due("greatest", x.pick(1, 2, 7), 7);
        voteSynced(x, 1, 2, 0);
        answer(x, 2, 0, 1);
        due("any", x.pick(2, 0, 7), 0);
        due("bound", x.pick(2, 2, 1), 7);
    }

    private static void pickNone() {
        unchanged(() -> three(2), x -> {
            for (int b : outside(1, 2)) due("ballot " + b, x.pick(b, 0, 1), REFUSED);
            for (int i : outside(0, 2)) due("instance " + i, x.pick(1, i, 1), REFUSED);
        });
        BallotDesk x = three(1);
        due("2 is none yet", x.pick(2, 0, 1), REFUSED);
        due("begin", x.begin(0, false), 2);
        due("nothing was left there", x.ballot(2, 6), NONE);
    }

    private static void pickNotReady() {
        unchanged(() -> oneAnswer(), x -> {
            for (int i = 0; i < 3; i++) due("one answer", x.pick(2, i, 1), REFUSED);
        });
        BallotDesk x = oneAnswer();
        yes("ask", x.ask(2, 1));
        due("it is not synced", x.pick(2, 0, 1), REFUSED);
        due("sync", x.sync(1, 1), 1);
        due("ready", x.pick(2, 0, 1), 1);
    }

    private static BallotDesk oneAnswer() {
        BallotDesk x = three(2);
        answer(x, 2, 0, 5);
        return x;
    }

    private static void pickAlready() {
        unchanged(Checks::fastFour, x -> due("any", x.pick(1, 0, 1), REFUSED));
        unchanged(PromiseBoundaryTest::busy, x -> {
            for (int i = 0; i < 3; i++) {
                due("another value", x.pick(3, i, 1), REFUSED);
                due("the same value", x.pick(3, i, 5), REFUSED);
            }
        });
        BallotDesk x = three(1);
        for (int i = 2; i >= 0; i--) {
            due("pick", x.pick(1, i, 5), 5);
            due("again", x.pick(1, i, 5), REFUSED);
        }
    }

    private static void voteNone() {
        unchanged(PromiseBoundaryTest::busy, x -> {
            for (int b : outside(1, 4)) no("ballot " + b, x.vote(b, 0, 6));
            for (int i : outside(0, 2)) no("instance " + i, x.vote(3, i, 6));
            for (int n : outside(0, 6)) no("node " + n, x.vote(3, 0, n));
        });
        BallotDesk x = busy();
        for (int i = 0; i < 3; i++) yes("node 6", x.vote(3, i, 6));
    }

    private static void voteAny() {
        unchanged(Checks::fastFour, x -> {
            for (int n = 0; n < 7; n++) no("any", x.vote(1, 0, n));
        });
    }

    private static void voteWritesNone() {
        unchanged(PromiseBoundaryTest::busy, x -> {
            for (int i = 0; i < 3; i++) {
                no("nothing picked", x.vote(4, i, 6));
                no("down", x.vote(3, i, 3));
                no("promise is 4", x.vote(3, i, 4));
                no("full", x.vote(3, i, 5));
            }
        });
        BallotDesk x = busy();
        yes("vote", x.vote(3, 0, 0));
        no("it has voted", x.vote(3, 0, 0));
        no("it has promised more", x.vote(2, 1, 0));
        due("one", x.node(0, 9), 1);
    }

    private static void proposeNoValue() {
        unchanged(Checks::fastFour, x -> {
            for (int v : outside(1, 7)) no("value " + v, x.propose(1, 0, 0, v));
        });
        BallotDesk x = fastFour();
        yes("least", x.propose(1, 0, 0, 1));
        yes("greatest", x.propose(1, 0, 1, 7));
        due("least", x.node(0, 2), 9);
        due("greatest", x.node(1, 2), 15);
    }

    private static void proposeNotAny() {
        unchanged(PromiseBoundaryTest::busy, x -> {
            no("another value", x.propose(3, 0, 6, 1));
            no("the very value", x.propose(3, 0, 6, 5));
            no("nothing", x.propose(4, 0, 6, 1));
        });
        unchanged(Checks::fastFour, x -> no("nothing there, in a fast one", x.propose(1, 1, 0, 1)));
    }

    private static void proposeLikewise() {
        unchanged(PromiseBoundaryTest::busyFast, x -> {
            for (int b : outside(1, 2)) no("ballot " + b, x.propose(b, 0, 0, 1));
            for (int i : outside(0, 2)) no("instance " + i, x.propose(1, i, 0, 1));
            for (int n : outside(0, 6)) no("node " + n, x.propose(1, 0, n, 1));
            no("down", x.propose(1, 0, 3, 1));
            no("promise is 2", x.propose(1, 0, 4, 1));
            no("it has voted", x.propose(1, 0, 5, 1));
        });
        BallotDesk x = busyFast();
        yes("another instance", x.propose(1, 1, 5, 1));
        yes("another node", x.propose(1, 0, 6, 1));
    }

    /** Ballot 1 has PICKED ANY; node 3 is DOWN, node 4 has PROMISED 2, node 5 VOTED for INSTANCE 0 in 1. */
    private static BallotDesk busyFast() {
        BallotDesk x = fastFour();
        due("any", x.pick(1, 1, 1), 0);
        due("any", x.pick(1, 2, 1), 0);
        yes("down", x.power(3, false));
        yes("ask", x.ask(2, 4));
        yes("propose", x.propose(1, 0, 5, 7));
        return x;
    }

    private static void syncCounts() {
        for (int k = 0; k <= 6; k++) {
            BallotDesk x = three(6);
            for (int b = 1; b <= 6; b++) yes("ask", x.ask(b, 6));
            due("k " + k, x.sync(6, k), k);
            due("left", x.node(6, 9), 6 - k);
            due("promise", x.node(6, 5), k);
            for (int b = 1; b <= 6; b++) due("answered " + b, x.ballot(b, 3), b <= k ? 64 : 0);
        }
    }

    private static void syncAsMany() {
        BallotDesk x = three(3);
        due("none there", x.sync(0, 6), 0);
        yes("ask", x.ask(1, 0));
        yes("ask", x.ask(2, 0));
        due("0 of two", x.sync(0, 0), 0);
        due("two", x.node(0, 9), 2);
        due("3 of two", x.sync(0, 3), 2);
        due("empty", x.node(0, 9), 0);
        due("again", x.sync(0, 1), 0);
        yes("ask", x.ask(3, 0));
        due("6 of one", x.sync(0, 6), 1);
    }

    private static void syncNone() {
        unchanged(PromiseBoundaryTest::busy, x -> {
            for (int n : outside(0, 6)) due("node " + n, x.sync(n, 1), REFUSED);
            for (int k : outside(0, 6)) due("k " + k, x.sync(5, k), REFUSED);
        });
        BallotDesk x = new BallotDesk();
        for (int k : outside(0, 6)) due("k, with nothing there " + k, x.sync(0, k), REFUSED);
    }

    private static void syncDown() {
        unchanged(PromiseBoundaryTest::busy, x -> {
            for (int k = 0; k <= 6; k++) due("k " + k, x.sync(3, k), REFUSED);
        });
        BallotDesk x = busy();
        yes("up", x.power(3, true));
        due("up", x.sync(3, 0), 0);
        yes("down", x.power(5, false));
        due("with a queue that is lost", x.sync(5, 6), REFUSED);
        yes("up", x.power(5, true));
        due("nothing of it is left", x.sync(5, 6), 0);
    }

    private static void completeNone() {
        unchanged(() -> three(2), x -> {
            for (int b : outside(1, 2)) no("ballot " + b, x.complete(b));
        });
    }

    private static void completeAgain() {
        BallotDesk x = three(1);
        pickAll(x, 1, 1);
        yes("completed", x.complete(1));
        no("again", x.complete(1));
        due("it was", x.ballot(1, 5), 1);
    }

    private static void completeMayNot() {
        unchanged(() -> oneAnswer(), x -> {
            no("nothing picked", x.complete(1));
            no("not ready", x.complete(2));
        });
        unchanged(Checks::fastFour, x -> no("one picked", x.complete(1)));
        BallotDesk x = fastFour();
        no("one picked", x.complete(1));
        due("begin", x.begin(0, false), 3);
        due("so it is no base", x.ballot(3, 2), 0);
        due("any", x.pick(1, 1, 1), 0);
        no("two picked", x.complete(1));
        due("any", x.pick(1, 2, 1), 0);
        yes("all picked", x.complete(1));
    }

    private static void hearCounts() {
        BallotDesk x = three(1);
        pickAll(x, 1, 4);
        due("one that has no votes", x.hear(1, 6), 0);
        for (int i = 0; i < 3; i++) {
            voteSynced(x, 1, i, 0, 2);
            due("one of two " + i, x.hear(1, 0), i);
            due("two of two " + i, x.hear(1, 2), i + 1);
        }
        due("the other learner", x.hear(0, 6), 0);
        due("all at once: first", x.hear(0, 0), 0);
        due("all at once: second", x.hear(0, 2), 3);
    }

    private static void hearNone() {
        unchanged(PromiseBoundaryTest::voters, x -> {
            for (int l : outside(0, 1)) due("learner " + l, x.hear(l, 0), REFUSED);
            for (int n : outside(0, 6)) due("node " + n, x.hear(0, n), REFUSED);
        });
        BallotDesk x = voters();
        for (int l : outside(0, 1)) due("learner " + l, x.hear(l, 0), REFUSED);
        due("nobody has heard node 0", x.hear(0, 1), 0);
        due("nor so", x.hear(1, 1), 0);
    }

    private static BallotDesk voters() {
        BallotDesk x = three(1);
        pickAll(x, 1, 4);
        voteSynced(x, 1, 0, 0, 1);
        return x;
    }

    private static void hearDown() {
        BallotDesk x = voters();
        yes("down", x.power(0, false));
        due("down", x.hear(0, 0), REFUSED);
        due("node 0 was not heard", x.hear(0, 1), 0);
        yes("up", x.power(0, true));
        due("up: what was synced is there", x.hear(0, 0), 1);
        yes("down", x.power(0, false));
        due("down, also when all is learned", x.hear(0, 0), REFUSED);
        due("it stays learned", x.learned(0, 0), 4);
    }

    private static void nodeNothing() {
        BallotDesk x = three(12);
        answer(x, 12, 0, 1);
        pickAll(x, 12, 7);
        yes("vote", x.vote(12, 1, 6));
        int[] want = {1, 12, 0, 103, 0, 0, 0, 0, 0, 1};
        for (int what = 0; what < 10; what++) due("the greatest there is, what " + what, x.node(6, what), want[what]);
        due("sync", x.sync(6, 6), 1);
        int[] then = {1, 12, 0, 103, 0, 12, 0, 103, 0, 0};
        for (int what = 0; what < 10; what++) due("synced, what " + what, x.node(6, what), then[what]);
    }

    private static void nodeRefused() {
        BallotDesk x = busy();
        for (int n : outside(0, 6)) {
            for (int what = 0; what < 10; what += 9) due("node " + n, x.node(n, what), REFUSED);
        }
        for (int what : outside(0, 9)) {
            for (int n = 0; n < 7; n++) due("what " + what, x.node(n, what), REFUSED);
        }
        due("the last", x.node(5, 9), 6);
        due("the first", x.node(3, 0), 0);
    }

    private static void ballotPicks() {
        BallotDesk x = three();
        due("fast", x.begin(0, true), 1);
        for (int what = 6; what < 9; what++) due("nothing", x.ballot(1, what), NONE);
        for (int i = 0; i < 3; i++) {
            due("any", x.pick(1, i, 7), 0);
            due("any", x.ballot(1, 6 + i), 0);
            due("nothing for the next", i < 2 ? x.ballot(1, 7 + i) : NONE, NONE);
        }
        BallotDesk y = three(12);
        answer(y, 12, 0, 1);
        for (int i = 0; i < 3; i++) due("pick", y.pick(12, i, 7 - 3 * i), 7 - 3 * i);
        for (int i = 0; i < 3; i++) due("picked", y.ballot(12, 6 + i), 7 - 3 * i);
        for (int i = 0; i < 3; i++) due("not by the one before", y.ballot(11, 6 + i), NONE);
    }

    private static void ballotFree() {
        BallotDesk x = three(2);
        for (int what = 9; what < 12; what++) due("nothing picked", x.ballot(1, what), 0);
        pickAll(x, 1, 6);
        for (int what = 9; what < 12; what++) due("free", x.ballot(1, what), 1);
        voteSynced(x, 1, 1, 0);
        answer(x, 2, 0, 1);
        for (int i = 0; i < 3; i++) due("pick", x.pick(2, i, 6), 6);
        due("free", x.ballot(2, 9), 1);
        due("bound, though the same was given", x.ballot(2, 10), 0);
        due("free", x.ballot(2, 11), 1);
    }

    private static void ballotAnswers() {
        BallotDesk x = three(2);
        due("empty", x.ballot(2, 3), 0);
        yes("ask", x.ask(2, 6));
        due("not synced", x.ballot(2, 3), 0);
        due("sync", x.sync(6, 1), 1);
        due("node 6", x.ballot(2, 3), 64);
        answer(x, 2, 0, 1, 2, 3, 4, 5);
        due("all", x.ballot(2, 3), 127);
        due("just of 2", x.ballot(1, 3), 0);
        yes("down", x.power(6, false));
        due("also if one goes down", x.ballot(2, 3), 127);
    }

    private static void ballotRefused() {
        BallotDesk x = busy();
        for (int b : outside(1, 4)) {
            for (int what = 0; what < 12; what++) due("ballot " + b, x.ballot(b, what), REFUSED);
        }
        for (int what : outside(0, 11)) {
            for (int b = 1; b <= 4; b++) due("what " + what, x.ballot(b, what), REFUSED);
        }
        due("the last", x.ballot(3, 11), 1);
        due("the first", x.ballot(3, 0), 0);
    }

    private static void tallyEdges() {
        BallotDesk x = fastFour();
        due("empty", x.tally(1, 0, 7), 0);
        proposeSynced(x, 1, 0, 7, 0, 6);
        due("first and last", x.tally(1, 0, 7), 65);
        proposeSynced(x, 1, 0, 7, 1, 2, 3, 4, 5);
        due("all", x.tally(1, 0, 7), 127);
        due("another value", x.tally(1, 0, 6), 0);
        due("another instance", x.tally(1, 1, 7), 0);
        due("another ballot", x.tally(2, 0, 7), 0);
        answer(x, 2, 0, 1, 2);
        due("bound", x.pick(2, 0, 1), 7);
        voteSynced(x, 2, 0, 6);
        due("ever", x.tally(1, 0, 7), 127);
        due("and there", x.tally(2, 0, 7), 64);
    }

    private static void tallyRefused() {
        BallotDesk x = busy();
        for (int b : outside(1, 4)) due("ballot " + b, x.tally(b, 0, 1), REFUSED);
        for (int i : outside(0, 2)) due("instance " + i, x.tally(4, i, 1), REFUSED);
        for (int v : outside(1, 7)) due("value " + v, x.tally(4, 0, v), REFUSED);
        due("a value that was not picked is none the less", x.tally(4, 2, 7), 0);
    }

    private static void chosenNone() {
        BallotDesk x = three();
        for (int i = 0; i < 3; i++) due("no ballot", x.chosen(i), 0);
        due("begin", x.begin(0, false), 1);
        for (int i = 0; i < 3; i++) due("nothing picked", x.chosen(i), 0);
        pickAll(x, 1, 7);
        for (int i = 0; i < 3; i++) due("no votes", x.chosen(i), 0);
        voteSynced(x, 1, 2, 0);
        due("one vote", x.chosen(2), 0);
        voteSynced(x, 1, 2, 2);
        due("two votes", x.chosen(2), 7);
        due("just there", x.chosen(0) + x.chosen(1), 0);
    }

    private static void chosenRefused() {
        BallotDesk x = voters();
        for (int i : outside(0, 2)) due("instance " + i, x.chosen(i), REFUSED);
        BallotDesk y = new BallotDesk();
        for (int i : outside(0, 2)) due("instance, of a new one " + i, y.chosen(i), REFUSED);
    }

    private static void possibleSums() {
        BallotDesk x = three();
        due("fast", x.begin(0, true), 1);
        for (int i = 0; i < 3; i++) due("none", x.possible(i), 0);
        due("any", x.pick(1, 2, 1), 0);
        due("1 to 7", x.possible(2), 254);
        proposeSynced(x, 1, 2, 7, 0);
        due("all three are needed", x.possible(2), 128);
        proposeSynced(x, 1, 2, 1, 1);
        due("none any more", x.possible(2), 0);
        BallotDesk y = new BallotDesk();
        yes("2 of 2 and 1 of 2", y.define(0, COUNT, 3, 2, 1, 0));
        for (int b = 1; b <= 2; b++) due("begin", y.begin(0, false), b);
        due("pick", y.pick(1, 0, 7), 7);
        voteSynced(y, 1, 0, 0);
        answer(y, 2, 0, 1);
        due("bound", y.pick(2, 0, 1), 7);
        due("in two ballots, counted once", y.possible(0), 128);
    }

    private static void possibleRefused() {
        BallotDesk x = voters();
        for (int i : outside(0, 2)) due("instance " + i, x.possible(i), REFUSED);
        BallotDesk y = new BallotDesk();
        for (int i : outside(0, 2)) due("instance, of a new one " + i, y.possible(i), REFUSED);
    }

    private static void learnedNone() {
        BallotDesk x = voters();
        due("chosen", x.chosen(0), 4);
        for (int l = 0; l < 2; l++) {
            for (int i = 0; i < 3; i++) due("nothing heard", x.learned(l, i), 0);
        }
        due("hear", x.hear(1, 1), 0);
        due("one of two", x.learned(1, 0), 0);
        due("hear", x.hear(1, 0), 1);
        due("two of two", x.learned(1, 0), 4);
        due("not the other instances", x.learned(1, 1) + x.learned(1, 2), 0);
        due("not the other learner", x.learned(0, 0), 0);
    }

    private static void learnedRefused() {
        BallotDesk x = voters();
        for (int l : outside(0, 1)) due("learner " + l, x.learned(l, 0), REFUSED);
        for (int i : outside(0, 2)) {
            due("instance " + i, x.learned(0, i), REFUSED);
            due("instance " + i, x.learned(1, i), REFUSED);
        }
    }

    private static void answersOpen() {
        BallotDesk x = three(3);
        due("two", x.answers(2), 2);
        yes("ask", x.ask(2, 0));
        due("for itself it has, for all others not", x.answers(2), 2);
        due("sync", x.sync(0, 1), 1);
        due("one has", x.answers(2), 1);
        yes("ask", x.ask(3, 1));
        yes("ask", x.ask(3, 2));
        due("for all others these may", x.answers(2), 1);
        due("sync", x.sync(1, 1), 1);
        due("node 2 may", x.answers(2), 1);
        due("sync", x.sync(2, 1), 1);
        due("nobody may", x.answers(2), NONE);
        due("they have answered 3", x.answers(3), 0);
        BallotDesk y = three(2);
        answer(y, 2, 0, 1);
        pickAll(y, 2, 4);
        due("begin", y.begin(0, false), 3);
        due("a promise of 2 is below 3", y.answers(3), 2);
        BallotDesk z = three(2);
        answer(z, 2, 0, 3);
        due("one of the others does not help", z.answers(2), 1);
    }

    private static void answersDown() {
        BallotDesk x = three(2);
        for (int n = 0; n < 7; n++) yes("down", x.power(n, false));
        due("all are down", x.answers(2), 2);
    }

    private static void answersReady() {
        BallotDesk x = three(3);
        due("the first is", x.answers(1), 0);
        answer(x, 2, 0, 1);
        due("this is", x.answers(2), 0);
        answer(x, 3, 0, 1, 2);
        due("more than enough", x.answers(3), 0);
        due("and stays so when all have promised more", x.answers(2), 0);
    }

    private static void answersNone() {
        BallotDesk x = three(3);
        answer(x, 3, 0);
        due("two are left", x.answers(2), 2);
        answer(x, 3, 1);
        due("one is left", x.answers(2), NONE);
        BallotDesk y = new BallotDesk();
        yes("all", y.define(0, COUNT, 127, 7, 1, 0));
        for (int b = 1; b <= 3; b++) due("begin", y.begin(0, false), b);
        due("all seven", y.answers(2), 7);
        answer(y, 3, 6);
        due("one is missing", y.answers(2), NONE);
        due("the others", y.answers(3), 6);
        BallotDesk z = three(3);
        answer(z, 3, 3, 4, 5, 6);
        due("these are not needed", z.answers(2), 2);
    }

    private static void answersRefused() {
        BallotDesk x = three();
        due("none", x.answers(1), REFUSED);
        due("begin", x.begin(0, false), 1);
        for (int b : outside(1, 1)) due("ballot " + b, x.answers(b), REFUSED);
        due("1", x.answers(1), 0);
    }

    private static void votesOpen() {
        BallotDesk x = three(2);
        pickAll(x, 1, 7);
        due("two", x.votes(1, 2, 7), 2);
        yes("vote", x.vote(1, 2, 0));
        due("for all others it can", x.votes(1, 2, 7), 2);
        due("sync", x.sync(0, 1), 1);
        due("one has", x.votes(1, 2, 7), 1);
        answer(x, 2, 1);
        yes("ask", x.ask(2, 2));
        due("for all others it can", x.votes(1, 2, 7), 1);
        due("sync", x.sync(2, 1), 1);
        due("nobody can", x.votes(1, 2, 7), NONE);
        BallotDesk y = three(1);
        pickAll(y, 1, 7);
        voteSynced(y, 1, 0, 3, 4, 5, 6);
        due("the others do not help", y.votes(1, 0, 7), 2);
    }

    private static void votesDown() {
        BallotDesk x = three(1);
        pickAll(x, 1, 7);
        for (int n = 0; n < 7; n++) yes("down", x.power(n, false));
        due("all are down", x.votes(1, 0, 7), 2);
    }

    private static void votesChosen() {
        BallotDesk x = three(2);
        pickAll(x, 1, 7);
        voteSynced(x, 1, 0, 0, 1);
        due("just enough", x.votes(1, 0, 7), 0);
        voteSynced(x, 1, 0, 2);
        due("more than enough", x.votes(1, 0, 7), 0);
        answer(x, 2, 0, 1, 2);
        due("when all have promised more, too", x.votes(1, 0, 7), 0);
        due("bound", x.pick(2, 0, 1), 7);
        due("not in 2", x.votes(2, 0, 7), 2);
    }

    private static void votesNone() {
        BallotDesk x = three(2);
        pickAll(x, 1, 7);
        answer(x, 2, 0);
        due("two are left", x.votes(1, 0, 7), 2);
        answer(x, 2, 1);
        due("one is left", x.votes(1, 0, 7), NONE);
        BallotDesk y = fastFour();
        proposeSynced(y, 1, 0, 7, 0);
        due("three for another one", y.votes(1, 0, 1), 3);
        proposeSynced(y, 1, 0, 6, 1);
        due("two for another one", y.votes(1, 0, 1), NONE);
        due("two more", y.votes(1, 0, 7), 2);
        proposeSynced(y, 1, 0, 6, 2);
        due("one more", y.votes(1, 0, 7), NONE);
        due("one more", y.votes(1, 0, 6), 1);
        BallotDesk z = new BallotDesk();
        yes("all write", z.define(0, COUNT, 127, 1, 7, 0));
        for (int b = 1; b <= 2; b++) due("begin", z.begin(0, false), b);
        pickAll(z, 1, 1);
        due("all seven", z.votes(1, 0, 1), 7);
        answer(z, 2, 6);
        due("one is missing", z.votes(1, 0, 1), NONE);
    }

    private static void votesNotPicked() {
        BallotDesk x = three(1);
        for (int v = 1; v <= 7; v++) due("nothing", x.votes(1, 1, v), NONE);
        due("pick", x.pick(1, 1, 4), 4);
        for (int v = 1; v <= 7; v++) due("picked 4, asked for " + v, x.votes(1, 1, v), v == 4 ? 2 : NONE);
        due("nothing next to it", x.votes(1, 0, 4), NONE);
        due("nothing next to it", x.votes(1, 2, 4), NONE);
        BallotDesk y = fastFour();
        for (int v = 1; v <= 7; v++) due("any", y.votes(1, 0, v), 3);
        due("nothing there", y.votes(1, 1, 1), NONE);
    }

    private static void votesRefused() {
        BallotDesk x = three();
        due("no ballot", x.votes(1, 0, 1), REFUSED);
        due("begin", x.begin(0, false), 1);
        pickAll(x, 1, 7);
        for (int b : outside(1, 1)) due("ballot " + b, x.votes(b, 0, 7), REFUSED);
        for (int i : outside(0, 2)) due("instance " + i, x.votes(1, i, 7), REFUSED);
        for (int v : outside(1, 7)) due("value " + v, x.votes(1, 0, v), REFUSED);
        due("begin", x.begin(0, false), 2);
        for (int v : outside(1, 7)) due("value, with nothing picked " + v, x.votes(2, 0, v), REFUSED);
    }

    private static void driveTimes() {
        unchanged(() -> three(2), x -> due("0 times", x.drive(2, 1, 0), 0));
        BallotDesk x = all();
        due("60 are just enough: 7 ANSWERS, 3 picks, 21 VOTES, their SYNCS and the end", x.drive(2, 1, 60), 60);
        due("completed", x.ballot(2, 5), 1);
        due("nothing is left", x.drive(2, 1, 60), 0);
        BallotDesk y = all();
        due("59 are one less", y.drive(2, 1, 59), 59);
        due("not completed", y.ballot(2, 5), 0);
        due("one is left", y.drive(2, 1, 60), 1);
        BallotDesk z = all();
        for (int done = 0; done < 60; done++) due("one by one " + done, z.drive(2, 1, 1), 1);
        due("completed", z.ballot(2, 5), 1);
        due("nothing is left", z.drive(2, 1, 1), 0);
    }

    /** Two ballots of a SYSTEM for which all nodes must ANSWER. */
    private static BallotDesk all() {
        BallotDesk x = new BallotDesk();
        yes("all read", x.define(0, COUNT, 127, 7, 1, 0));
        for (int b = 1; b <= 2; b++) due("begin", x.begin(0, false), b);
        return x;
    }

    private static void driveSyncs() {
        BallotDesk x = three(3);
        yes("ask", x.ask(3, 6));
        yes("ask", x.ask(2, 4));
        yes("ask", x.ask(3, 4));
        yes("ask", x.ask(2, 5));
        yes("down", x.power(5, false));
        due("one", x.drive(1, 1, 1), 1);
        due("node 4, one record, though of another ballot", x.node(4, 9), 1);
        due("the first", x.ballot(2, 3), 16);
        due("one", x.drive(1, 1, 1), 1);
        due("node 4 again", x.ballot(3, 3), 16);
        due("one", x.drive(1, 1, 1), 1);
        due("then node 6", x.ballot(3, 3), 80);
        due("no pick before that", x.ballot(1, 6), NONE);
        due("one", x.drive(1, 1, 1), 1);
        due("then the pick: node 5 is down", x.ballot(1, 6), 1);
        due("its record is lost", x.node(5, 9), 0);
    }

    private static void driveAsks() {
        BallotDesk x = three(3);
        yes("down", x.power(0, false));
        answer(x, 3, 1);
        due("one", x.drive(2, 1, 1), 1);
        due("neither node 0, which is down", x.node(0, 1), 0);
        due("nor node 1, which promised 3", x.node(1, 1), 3);
        due("but node 2", x.node(2, 1), 2);
        due("its record", x.node(2, 9), 1);
        due("it is synced, then node 3 is asked", x.drive(2, 1, 2), 2);
        due("node 2", x.ballot(2, 3), 4);
        due("node 3", x.node(3, 1), 2);
        yes("up", x.power(0, true));
        due("node 3 is synced, then node 0 is asked and synced", x.drive(2, 1, 3), 3);
        due("ready", x.ballot(2, 4), 1);
        due("one", x.drive(2, 1, 1), 1);
        due("nobody is asked any more", x.node(4, 1), 0);
        due("it is a pick", x.ballot(2, 6), 1);
        BallotDesk y = three(1);
        due("1 is ready", y.drive(1, 1, 1), 1);
        due("nobody is asked", y.node(0, 9), 0);
        due("it picks", y.ballot(1, 6), 1);
    }

    private static void drivePicks() {
        BallotDesk x = three(2);
        due("pick", x.pick(1, 1, 7), 7);
        due("one", x.drive(1, 2, 1), 1);
        due("0 is the least", x.ballot(1, 6), 2);
        due("2 not yet", x.ballot(1, 8), NONE);
        due("one", x.drive(1, 3, 1), 1);
        due("1 is as it was", x.ballot(1, 7), 7);
        due("2 is next", x.ballot(1, 8), 3);
        for (int n = 0; n < 7; n++) yes("down", x.power(n, false));
        due("not ready: no pick", x.drive(2, 1, 60), 0);
        due("nothing", x.ballot(2, 6), NONE);
        due("1 is free: it is completed", x.drive(1, 1, 60), 1);
    }

    private static void driveVotes() {
        BallotDesk x = three();
        due("fast", x.begin(0, true), 1);
        due("not", x.begin(0, false), 2);
        due("picks", x.drive(1, 7, 3), 3);
        for (int v = 1; v <= 7; v++) due("vote and sync", x.drive(1, v, 2), 2);
        for (int v = 1; v <= 7; v++) due("each for what was given", x.tally(1, 0, v), 1 << v - 1);
        due("node 0, for 1", x.drive(1, 5, 1), 1);
        due("what was given", x.node(0, 3), 13);
        BallotDesk y = three(1);
        pickAll(y, 1, 7);
        due("vote and sync", y.drive(1, 1, 2), 2);
        due("for what was picked", y.tally(1, 0, 7), 1);
        due("not for what was given", y.tally(1, 0, 1), 0);
        yes("down", y.power(1, false));
        due("vote and sync", y.drive(1, 1, 2), 2);
        due("node 1 is down, node 2 votes", y.tally(1, 0, 7), 5);
    }

    private static void driveCompletes() {
        BallotDesk x = three(2);
        for (int n = 3; n < 7; n++) yes("down", x.power(n, false));
        due("3 picks, 9 votes, 9 syncs", x.drive(1, 6, 21), 21);
        due("not yet", x.ballot(1, 5), 0);
        due("completed", x.drive(1, 6, 60), 1);
        due("completed", x.ballot(1, 5), 1);
        due("once", x.drive(1, 6, 60), 0);
        yes("up", x.power(3, true));
        due("node 3 votes none the less", x.drive(1, 6, 60), 6);
        due("tally", x.tally(1, 2, 6), 15);
    }

    private static void driveStops() {
        BallotDesk x = three(2);
        for (int n = 1; n < 7; n++) yes("down", x.power(n, false));
        due("an answer and its sync", x.drive(2, 1, 60), 2);
        due("not ready", x.ballot(2, 4), 0);
        due("nothing", x.drive(2, 1, 60), 0);
        due("3 picks, and 1 is completed: node 0 promised 2", x.drive(1, 5, 60), 4);
        BallotDesk y = three(2);
        pickAll(y, 1, 6);
        voteSynced(y, 1, 0, 0, 1);
        answer(y, 2, 0, 1);
        for (int n = 1; n < 7; n++) yes("down", y.power(n, false));
        due("3 picks, 3 votes, 3 syncs", y.drive(2, 5, 60), 9);
        due("bound and not chosen: it is not completed", y.ballot(2, 5), 0);
    }

    private static void driveRefused() {
        unchanged(() -> oneAnswer(), x -> {
            for (int b : outside(1, 2)) due("ballot " + b, x.drive(b, 1, 60), REFUSED);
            for (int n : outside(0, 60)) due("times " + n, x.drive(1, 1, n), REFUSED);
            for (int v : outside(1, 7)) {
                due("value " + v, x.drive(1, v, 60), REFUSED);
                due("value, 0 times " + v, x.drive(1, v, 0), REFUSED);
            }
            for (int b : outside(1, 2)) due("ballot, 0 times " + b, x.drive(b, 1, 0), REFUSED);
        });
    }

    private static void refusedBeforeFull() {
        BallotDesk x = three();
        yes("without FAST", x.define(1, COUNT, 7, 2, 2, 0));
        for (int b = 1; b <= 12; b++) due("begin", x.begin(0, false), b);
        due("full", x.begin(0, false), FULL);
        due("full", x.begin(0, true), FULL);
        due("full", x.begin(1, false), FULL);
        due("no FAST quorum", x.begin(1, true), REFUSED);
        due("no such SYSTEM", x.begin(2, false), REFUSED);
        for (int s : outside(0, 3)) due("no such SYSTEM " + s, x.begin(s, s > 0), REFUSED);
    }

    private static void writeIsNotFast() {
        BallotDesk x = three();
        due("fast", x.begin(0, true), 1);
        due("not", x.begin(0, false), 2);
        due("any", x.pick(1, 0, 1), 0);
        proposeSynced(x, 1, 0, 3, 0, 1);
        due("CHOSEN", x.chosen(0), 0);
        due("LEARNS", x.hear(0, 0) + x.hear(0, 1), 0);
        due("votes: one more", x.votes(1, 0, 3), 1);
        due("POSSIBLE with node 2", x.possible(0), 8);
        answer(x, 2, 2);
        due("POSSIBLE without it", x.possible(0), 0);
        due("votes", x.votes(1, 0, 3), NONE);
    }

    /** Here {0, 1} is a FAST quorum and no WRITE one, which is {0, 1, 2}; ballot 2 is FAST, but PICKS a value. */
    private static void fastIsNotWrite() {
        BallotDesk x = new BallotDesk();
        yes("define", x.define(0, LISTS, 1, 7, 3, 0));
        for (int b = 1; b <= 3; b++) due("fast", x.begin(0, true), b);
        due("any", x.pick(1, 0, 1), 0);
        proposeSynced(x, 1, 0, 3, 0);
        answer(x, 2, 0);
        due("bound, as node 1 is silent", x.pick(2, 0, 1), 3);
        voteSynced(x, 2, 0, 0, 1);
        due("CHOSEN", x.chosen(0), 0);
        due("LEARNS", x.hear(0, 0) + x.hear(0, 1), 0);
        due("votes: one more", x.votes(2, 0, 3), 1);
        due("POSSIBLE with node 2", x.possible(0), 8);
        answer(x, 3, 2);
        due("POSSIBLE without it", x.possible(0), 0);
        due("votes", x.votes(2, 0, 3), NONE);
    }

    private static void instanceFirst() {
        BallotDesk x = three(1);
        pickAll(x, 1, 2);
        for (int n = 0; n < 6; n++) voteSynced(x, 1, 0, n);
        due("one", x.drive(1, 2, 1), 1);
        due("node 6 for 0", x.node(6, 2), 10);
        due("not node 0 for 1", x.node(0, 3), 0);
        due("its sync, and the next", x.drive(1, 2, 2), 2);
        due("node 0 for 1", x.node(0, 3), 10);
        due("not for 2", x.node(0, 4), 0);
        due("its sync, and the next", x.drive(1, 2, 2), 2);
        due("node 1 for 1", x.node(1, 3), 10);
        due("not node 0 for 2", x.node(0, 4), 0);
    }
}
