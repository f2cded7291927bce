/** The boundary cases of ballots, nodes and learners in "Terms", each sentence with a test of its own. */
public final class BallotBoundaryTest extends Checks {
    public static void main(String[] args) {
        sentence("What it is: an object is used for at most 512 calls", BallotBoundaryTest::calls);
        sentence("Terms: NODES are 0..6", BallotBoundaryTest::nodes);
        sentence("Terms: BALLOTS 1, 2, .. (at most to 12) are begun one after the other", BallotBoundaryTest::ballots);
        sentence("Terms: ballots that were not begun are none", BallotBoundaryTest::noBallots);
        sentence("Terms: the BASE is the greatest ballot that was COMPLETED", BallotBoundaryTest::baseGreatest);
        sentence("Terms: COMPLETED before it was begun", BallotBoundaryTest::baseBefore);
        sentence("Terms: the BASE is 0 if none was", BallotBoundaryTest::baseNone);
        sentence("Terms: INSTANCES 0..2", BallotBoundaryTest::instances);
        sentence("Terms: a value 1..7", BallotBoundaryTest::values);
        sentence("Terms: a NODE is UP (at first)", BallotBoundaryTest::upAtFirst);
        sentence("Terms: a PROMISE (0 at first), a VOTE (at first none)", BallotBoundaryTest::nothingAtFirst);
        sentence("Terms: the VOTE is the latest one", BallotBoundaryTest::latestVote);
        sentence("Terms: at most 6 records: ANSWERS", BallotBoundaryTest::fullOfAnswers);
        sentence("Terms: at most 6 records: VOTES", BallotBoundaryTest::fullOfVotes);
        sentence("Terms: at most 6 records: proposed VOTES", BallotBoundaryTest::fullOfProposals);
        sentence("Terms: each node has its QUEUE", BallotBoundaryTest::queueOfEach);
        sentence("Terms: the first record of a QUEUE leaves it", BallotBoundaryTest::queueOrder);
        sentence("Terms: for the node itself as with these, for all others as without", BallotBoundaryTest::itselfAndOthers);
        sentence("Terms: b keeps its VOTES as they are SYNCED by then", BallotBoundaryTest::keptByThen);
        sentence("Terms: a VOTE: PROMISE is its ballot", BallotBoundaryTest::votePromises);
        sentence("Terms: when a node goes DOWN its QUEUE is lost", BallotBoundaryTest::queueLost);
        sentence("Terms: its QUEUE is lost: of each node, for each INSTANCE", BallotBoundaryTest::queueLostOfEach);
        sentence("Terms: it ANSWERS if its PROMISE is below b", BallotBoundaryTest::promiseBelow);
        sentence("Terms: it ANSWERS if it is UP", BallotBoundaryTest::answersUp);
        sentence("Terms: READY for each ballot c below b: with none there", BallotBoundaryTest::readyFirst);
        sentence("Terms: READY for each ballot c below b: all of them", BallotBoundaryTest::readyAll);
        sentence("Terms: READY for each ballot c from its BASE on", BallotBoundaryTest::readyFromBase);
        sentence("Terms: what it PICKS: if there is none, it is FREE", BallotBoundaryTest::freeWithoutVotes);
        sentence("Terms: k is not below its BASE", BallotBoundaryTest::votesFromBase);
        sentence("Terms: k is the greatest ballot of VOTES", BallotBoundaryTest::greatestBallot);
        sentence("Terms: VOTES that b keeps: those of the first and of the last node", BallotBoundaryTest::keptOfEach);
        sentence("Terms: VOTES that b keeps, not those that other ballots keep", BallotBoundaryTest::keptByAnother);
        sentence("Terms: a FAST quorum of the SYSTEM of k", BallotBoundaryTest::systemOfK);
        sentence("Terms: a FAST quorum with all those that did not ANSWER b, whoever", BallotBoundaryTest::silentOfEach);
        sentence("Terms: a FAST quorum with all those that did not ANSWER b", BallotBoundaryTest::silentNodes);
        sentence("Terms: if there is none (no such value), it is FREE", BallotBoundaryTest::freeAfterAny);
        sentence("Terms: FREE: a FAST ballot PICKS ANY, another one the value given", BallotBoundaryTest::freePicks);
        sentence("Terms: CAN VOTE if b PICKED for i", BallotBoundaryTest::canVotePicked);
        sentence("Terms: CAN VOTE if its PROMISE is not above b", BallotBoundaryTest::canVotePromise);
        sentence("Terms: CAN VOTE if its VOTE is none, or in a ballot below b", BallotBoundaryTest::canVoteVote);
        sentence("Terms: CHOSEN if these are a WRITE quorum", BallotBoundaryTest::chosenWrite);
        sentence("Terms: CHOSEN, if b PICKED ANY there, a FAST one", BallotBoundaryTest::chosenFast);
        sentence("Terms: CHOSEN: nodes that ever VOTED for it there in b", BallotBoundaryTest::chosenEver);
        sentence("Terms: POSSIBLE if b PICKED it, or ANY", BallotBoundaryTest::possiblePicked);
        sentence("Terms: POSSIBLE with those that CAN VOTE for all others", BallotBoundaryTest::possibleOthers);
        sentence("Terms: POSSIBLE with those that are UP or DOWN", BallotBoundaryTest::possibleDown);
        sentence("Terms: to be COMPLETED a ballot must be READY", BallotBoundaryTest::completeReady);
        sentence("Terms: to be COMPLETED for each INSTANCE have PICKED", BallotBoundaryTest::completePicked);
        sentence("Terms: to be COMPLETED: FREE or CHOSEN there in this ballot", BallotBoundaryTest::completeChosen);
        sentence("Terms: LEARNERS 0, 1", BallotBoundaryTest::learners);
        sentence("Terms: VOTES as they are SYNCED at that time", BallotBoundaryTest::heardSynced);
        sentence("Terms: its VOTES are the latest ones", BallotBoundaryTest::heardLatest);
        sentence("Terms: not those that are SYNCED later, until they HEAR it again", BallotBoundaryTest::heardAgain);
        sentence("Terms: besides all that they know", BallotBoundaryTest::heardBefore);
        sentence("Terms: LEARNS: they VOTED for it in one ballot", BallotBoundaryTest::learnsInOne);
        end();
    }

    private static void calls() {
        BallotDesk x = three(2);
        pickAll(x, 1, 6);
        voteSynced(x, 1, 0, 0);
        int used = 3 + 3 + 2;
        for (; used < 509; used++) no("refused and full of nothing", x.vote(1, 0, 0));
        yes("call 510", x.vote(1, 0, 1));
        due("call 511", x.sync(1, 6), 1);
        due("call 512", x.chosen(0), 6);
    }

    private static void nodes() {
        BallotDesk x = fastFour();
        due("any", x.pick(1, 1, 1), 0);
        answer(x, 2, 0, 1, 2);
        due("a value", x.pick(2, 2, 5), 5);
        for (int n : outside(0, 6)) {
            no("power " + n, x.power(n, false) || x.power(n, true));
            no("ask " + n, x.ask(2, n));
            no("vote " + n, x.vote(2, 2, n));
            no("propose " + n, x.propose(1, 0, n, 1));
            due("sync " + n, x.sync(n, 0), REFUSED);
            due("hear " + n, x.hear(0, n), REFUSED);
            due("node " + n, x.node(n, 0), REFUSED);
        }
        for (int n = 3; n < 7; n++) {
            yes("propose " + n, x.propose(1, 0, n, 1));
            yes("ask " + n, x.ask(2, n));
            yes("vote " + n, x.vote(2, 2, n));
            due("sync " + n, x.sync(n, 6), 3);
            due("hear " + n, x.hear(0, n), 0);
            yes("power " + n, x.power(n, false));
            due("node " + n, x.node(n, 0), 0);
        }
        due("nodes 3 to 6", x.tally(1, 0, 1), 120);
        due("all nodes", x.ballot(2, 3), 127);
        due("nodes 3 to 6", x.tally(2, 2, 5), 120);
        yes("node 0", x.vote(2, 2, 0));
        due("node 0", x.sync(0, 1), 1);
        due("node 0, too", x.tally(2, 2, 5), 121);
    }

    private static void ballots() {
        BallotDesk x = three();
        for (int b = 1; b <= 12; b++) {
            due("a refused one has no number", x.begin(1, false), REFUSED);
            due("one after the other", x.begin(0, false), b);
        }
        due("no thirteenth", x.begin(0, false), FULL);
        due("still none", x.begin(0, true), FULL);
        due("13 is none", x.ballot(13, 0), REFUSED);
        answer(x, 12, 0, 2);
        due("12 is one", x.pick(12, 2, 7), 7);
        voteSynced(x, 12, 2, 0, 1);
        due("its votes are kept as those of 12", x.node(0, 8), 12 * 8 + 7);
        due("and counted", x.chosen(2), 7);
        due("hear", x.hear(1, 0), 0);
        due("and learned", x.hear(1, 1), 1);
        no("asked by one below", x.ask(11, 0));
    }

    private static void noBallots() {
        BallotDesk x = three(2);
        pickAll(x, 1, 3);
        for (int b : outside(1, 2)) {
            no("ask " + b, x.ask(b, 6));
            due("pick " + b, x.pick(b, 0, 1), REFUSED);
            no("vote " + b, x.vote(b, 0, 6));
            no("propose " + b, x.propose(b, 0, 6, 1));
            no("complete " + b, x.complete(b));
            due("ballot " + b, x.ballot(b, 0), REFUSED);
            due("tally " + b, x.tally(b, 0, 1), REFUSED);
            due("answers " + b, x.answers(b), REFUSED);
            due("votes " + b, x.votes(b, 0, 1), REFUSED);
            due("drive " + b, x.drive(b, 1, 0), REFUSED);
        }
        due("nothing was written", x.node(6, 9), 0);
        due("0 is none, also as a BASE", x.ballot(x.ballot(2, 2), 0), REFUSED);
        due("3 is one when it is begun", x.begin(0, false), 3);
        yes("ask", x.ask(3, 6));
    }

    private static void baseGreatest() {
        BallotDesk x = three(3);
        answer(x, 3, 0, 1);
        pickAll(x, 3, 1);
        yes("3", x.complete(3));
        pickAll(x, 1, 1);
        yes("1, later", x.complete(1));
        due("begin", x.begin(0, false), 4);
        due("the greatest, not the latest", x.ballot(4, 2), 3);
        due("begin", x.begin(0, false), 5);
        due("not the one before", x.ballot(5, 2), 3);
    }

    private static void baseBefore() {
        BallotDesk x = three(2);
        pickAll(x, 1, 1);
        due("begun when 1 was not", x.ballot(2, 2), 0);
        yes("completed", x.complete(1));
        due("as it was", x.ballot(2, 2), 0);
        due("the base of itself is no ballot", x.ballot(1, 2), 0);
        due("begin", x.begin(0, false), 3);
        due("begun after it", x.ballot(3, 2), 1);
    }

    private static void baseNone() {
        BallotDesk x = three();
        for (int b = 1; b <= 12; b++) {
            due("begin", x.begin(0, false), b);
            no("not to be completed", x.complete(b));
            due("base", x.ballot(b, 2), 0);
        }
    }

    private static void instances() {
        BallotDesk x = fastFour();
        for (int i : outside(0, 2)) {
            due("pick " + i, x.pick(1, i, 1), REFUSED);
            no("vote " + i, x.vote(1, i, 0));
            no("propose " + i, x.propose(1, i, 0, 1));
            due("tally " + i, x.tally(1, i, 1), REFUSED);
            due("chosen " + i, x.chosen(i), REFUSED);
            due("possible " + i, x.possible(i), REFUSED);
            due("learned " + i, x.learned(0, i), REFUSED);
            due("votes " + i, x.votes(1, i, 1), REFUSED);
        }
        due("pick", x.pick(1, 1, 1), 0);
        due("pick", x.pick(1, 2, 1), 0);
        for (int i = 0; i < 3; i++) {
            proposeSynced(x, 1, i, i + 1, 0, 1, 2);
            due("chosen", x.chosen(i), i + 1);
            due("possible", x.possible(i), 2 << i);
            due("tally", x.tally(1, i, i + 1), 7);
            due("another one is not", i < 2 ? x.chosen(i + 1) : 0, 0);
        }
        for (int n = 0; n < 3; n++) due("hear", x.hear(0, n), n == 2 ? 3 : 0);
        for (int i = 0; i < 3; i++) due("learned", x.learned(0, i), i + 1);
    }

    private static void values() {
        BallotDesk x = fastFour();
        for (int v : outside(1, 7)) {
            due("pick " + v, x.pick(1, 1, v), REFUSED);
            no("propose " + v, x.propose(1, 0, 0, v));
            due("tally " + v, x.tally(1, 0, v), REFUSED);
            due("votes " + v, x.votes(1, 0, v), REFUSED);
            due("drive " + v, x.drive(1, v, 0), REFUSED);
        }
        due("nothing was written", x.node(0, 9), 0);
        for (int v = 1; v <= 7; v++) {
            yes("propose " + v, x.propose(1, 0, v - 1, v));
            due("for itself", x.node(v - 1, 2), 8 + v);
            due("sync", x.sync(v - 1, 1), 1);
            due("tally", x.tally(1, 0, v), 1 << v - 1);
        }
        for (int v = 1; v <= 7; v += 6) {
            BallotDesk y = three(1);
            due("pick " + v, y.pick(1, 0, v), v);
            due("possible " + v, y.possible(0), 1 << v);
            voteSynced(y, 1, 0, 0, 1);
            due("chosen " + v, y.chosen(0), v);
        }
    }

    private static void upAtFirst() {
        BallotDesk x = new BallotDesk();
        for (int n = 0; n < 7; n++) {
            no("up already " + n, x.power(n, true));
            due("up " + n, x.node(n, 0), 1);
            due("so it may sync " + n, x.sync(n, 6), 0);
        }
    }

    private static void nothingAtFirst() {
        BallotDesk x = new BallotDesk();
        for (int n = 0; n < 7; n++) {
            for (int what = 1; what < 10; what++) due("node " + n + " what " + what, x.node(n, what), 0);
        }
        yes("define", x.define(0, COUNT, 127, 1, 7, 0));
        due("begin", x.begin(0, false), 1);
        for (int n = 0; n < 7; n++) yes("0 is below 1 " + n, x.ask(1, n));
    }

    private static void latestVote() {
        BallotDesk x = three(2);
        pickAll(x, 1, 7);
        answer(x, 2, 0, 1);
        pickAll(x, 2, 1);
        yes("vote in 1", x.vote(1, 0, 3));
        yes("vote in 2", x.vote(2, 0, 3));
        yes("another instance, in 2", x.vote(2, 1, 3));
        due("the latest for itself", x.node(3, 2), 17);
        due("all", x.sync(3, 6), 3);
        due("the latest for all others", x.node(3, 6), 17);
        due("of the other instance", x.node(3, 7), 17);
        due("of the third none", x.node(3, 8), 0);
    }

    private static void fullOfAnswers() {
        BallotDesk x = three(12);
        for (int b = 1; b <= 6; b++) {
            due("room", x.node(4, 9), b - 1);
            yes("answer " + b, x.ask(b, 4));
        }
        for (int b = 7; b <= 12; b++) no("the seventh " + b, x.ask(b, 4));
        due("six", x.node(4, 9), 6);
        due("promise of the sixth", x.node(4, 1), 6);
        due("one leaves", x.sync(4, 1), 1);
        yes("room for one", x.ask(12, 4));
        no("a vote finds none", x.vote(12, 0, 4));
        due("six again", x.node(4, 9), 6);
        due("all", x.sync(4, 6), 6);
        due("none is left", x.node(4, 9), 0);
        for (int b = 1; b <= 12; b++) due("answered " + b, x.ballot(b, 3), b <= 6 || b == 12 ? 16 : 0);
    }

    private static void fullOfVotes() {
        BallotDesk x = three(4);
        pickAll(x, 1, 1);
        answer(x, 2, 0, 1);
        pickAll(x, 2, 2);
        answer(x, 3, 0, 1);
        pickAll(x, 3, 3);
        for (int b = 1; b <= 2; b++) {
            for (int i = 0; i < 3; i++) yes("vote in " + b, x.vote(b, i, 6));
        }
        for (int i = 0; i < 3; i++) no("the seventh", x.vote(3, i, 6));
        no("nor an answer", x.ask(4, 6));
        due("six", x.node(6, 9), 6);
        due("promise as it was", x.node(6, 1), 2);
        due("vote as it was", x.node(6, 2), 18);
        due("two leave", x.sync(6, 2), 2);
        yes("room for two", x.vote(3, 2, 6));
        yes("room for one", x.ask(4, 6));
        no("no room", x.vote(3, 1, 6));
        due("six again", x.node(6, 9), 6);
    }

    private static void fullOfProposals() {
        BallotDesk x = three();
        for (int b = 1; b <= 3; b++) due("begin", x.begin(0, true), b);
        answer(x, 2, 0, 1);
        answer(x, 3, 0, 1);
        for (int b = 1; b <= 3; b++) {
            for (int i = 0; i < 3; i++) due("any", x.pick(b, i, 1), 0);
        }
        for (int b = 1; b <= 2; b++) {
            for (int i = 0; i < 3; i++) yes("propose in " + b, x.propose(b, i, 6, b + i));
        }
        for (int i = 0; i < 3; i++) no("the seventh", x.propose(3, i, 6, 7));
        due("six", x.node(6, 9), 6);
        due("promise as it was", x.node(6, 1), 2);
        due("vote as it was", x.node(6, 2), 18);
        due("one leaves", x.sync(6, 1), 1);
        yes("room for one", x.propose(3, 0, 6, 7));
        no("no room", x.propose(3, 1, 6, 7));
        due("all", x.sync(6, 6), 6);
        due("in order", x.node(6, 6), 31);
        due("in order", x.node(6, 7), 19);
        due("in order", x.node(6, 8), 20);
    }

    private static void queueOfEach() {
        BallotDesk x = three(7);
        for (int b = 1; b <= 6; b++) yes("node 2", x.ask(b, 2));
        yes("node 1 has room", x.ask(7, 1));
        yes("node 3 has room", x.ask(1, 3));
        due("six", x.node(2, 9), 6);
        due("one", x.node(1, 9), 1);
        due("one", x.node(3, 9), 1);
        yes("node 1 goes down", x.power(1, false));
        due("just its queue is lost", x.node(2, 9), 6);
        due("all of node 2", x.sync(2, 6), 6);
        due("none of node 3", x.node(3, 9), 1);
        due("its answer is not there", x.ballot(1, 3), 4);
        due("of node 3", x.sync(3, 6), 1);
        due("now it is", x.ballot(1, 3), 12);
        due("7 has none", x.ballot(7, 3), 0);
    }

    /** Records come and go so that a QUEUE in a ring of six would go round it. */
    private static void queueOrder() {
        BallotDesk x = three(12);
        int asked = 0;
        for (int b = 1; b <= 4; b++) yes("ask " + b, x.ask(++asked, 0));
        for (int synced = 1; synced <= 12; synced++) {
            if (asked < 12) yes("ask", x.ask(++asked, 0));
            due("first", x.sync(0, 1), 1);
            due("the first leaves", x.ballot(synced, 3), 1);
            due("not the next", synced < 12 ? x.ballot(synced + 1, 3) : 0, 0);
            due("promise for all others", x.node(0, 5), synced);
            due("the others stay", x.node(0, 9), asked - synced);
        }
        due("empty", x.sync(0, 1), 0);
    }

    private static void itselfAndOthers() {
        BallotDesk x = three(2);
        pickAll(x, 1, 5);
        yes("vote", x.vote(1, 1, 2));
        yes("ask", x.ask(2, 2));
        int[] before = {1, 2, 0, 13, 0, 0, 0, 0, 0, 2};
        for (int what = 0; what < 10; what++) due("none synced, what " + what, x.node(2, what), before[what]);
        due("not voted", x.tally(1, 1, 5), 0);
        due("first", x.sync(2, 1), 1);
        int[] between = {1, 2, 0, 13, 0, 1, 0, 13, 0, 1};
        for (int what = 0; what < 10; what++) due("one synced, what " + what, x.node(2, what), between[what]);
        due("voted", x.tally(1, 1, 5), 4);
        due("not answered", x.ballot(2, 3), 0);
        due("second", x.sync(2, 1), 1);
        int[] after = {1, 2, 0, 13, 0, 2, 0, 13, 0, 0};
        for (int what = 0; what < 10; what++) due("all synced, what " + what, x.node(2, what), after[what]);
        due("answered", x.ballot(2, 3), 4);
    }

    private static void keptByThen() {
        BallotDesk x = three(3);
        pickAll(x, 1, 5);
        answer(x, 2, 1);
        answer(x, 3, 1, 2);
        pickAll(x, 3, 6);
        yes("a vote before the answer", x.vote(1, 0, 0));
        yes("the answer", x.ask(2, 0));
        yes("a vote after the answer", x.vote(3, 1, 0));
        due("vote and answer", x.sync(0, 2), 2);
        due("ready", x.ballot(2, 4), 1);
        due("the vote before it is kept", x.pick(2, 0, 4), 5);
        due("the vote after it, which is not synced, is not", x.pick(2, 1, 4), 4);
        due("the vote after it", x.sync(0, 1), 1);
        due("begin", x.begin(0, false), 4);
        answer(x, 4, 0, 1);
        due("4 keeps the vote in 1", x.pick(4, 0, 2), 5);
        due("and the one in 3", x.pick(4, 1, 2), 6);
        BallotDesk w = three(3);
        answer(w, 2, 1);
        answer(w, 3, 1, 2);
        pickAll(w, 3, 6);
        yes("ask", w.ask(2, 0));
        yes("vote", w.vote(3, 0, 0));
        due("answer and vote", w.sync(0, 2), 2);
        due("a vote that is synced after it is not kept, either", w.pick(2, 0, 4), 4);
        BallotDesk y = three(2);
        pickAll(y, 1, 5);
        answer(y, 2, 0, 1);
        no("it promised, so it may not vote in 1", y.vote(1, 0, 0));
        due("2 keeps nothing", y.pick(2, 0, 3), 3);
        BallotDesk z = three(2);
        pickAll(z, 1, 5);
        yes("ask", z.ask(2, 1));
        yes("vote", z.vote(1, 0, 0));
        yes("ask", z.ask(2, 0));
        due("just the vote is synced", z.sync(0, 1), 1);
        due("the answer of 1", z.sync(1, 1), 1);
        due("2 has not the answer", z.pick(2, 0, 3), REFUSED);
        due("the answer is", z.sync(0, 1), 1);
        due("with the vote", z.pick(2, 0, 3), 5);
    }

    private static void votePromises() {
        BallotDesk x = three(3);
        answer(x, 2, 0, 1);
        pickAll(x, 2, 5);
        yes("vote in 2 without an answer", x.vote(2, 0, 2));
        due("for itself", x.node(2, 1), 2);
        due("not yet for all others", x.node(2, 5), 0);
        due("sync", x.sync(2, 1), 1);
        due("for all others", x.node(2, 5), 2);
        due("it has not answered", x.ballot(2, 3), 3);
        no("nor does it then", x.ask(2, 2));
        no("below", x.ask(1, 2));
        yes("above", x.ask(3, 2));
    }

    private static void queueLost() {
        BallotDesk x = three(3);
        due("any", x.begin(0, true), 4);
        answer(x, 4, 0, 1);
        due("any", x.pick(4, 0, 1), 0);
        yes("ask", x.ask(2, 2));
        due("sync", x.sync(2, 1), 1);
        yes("ask", x.ask(3, 2));
        yes("propose", x.propose(4, 0, 2, 6));
        due("two", x.node(2, 9), 2);
        no("up it is already: nothing is lost", x.power(2, true));
        due("two", x.node(2, 9), 2);
        yes("down", x.power(2, false));
        int[] down = {0, 2, 0, 0, 0, 2, 0, 0, 0, 0};
        for (int what = 0; what < 10; what++) due("down, what " + what, x.node(2, what), down[what]);
        no("down already", x.power(2, false));
        yes("up", x.power(2, true));
        due("nothing comes back", x.sync(2, 6), 0);
        due("3 has no answer", x.ballot(3, 3), 0);
        due("6 has no vote", x.tally(4, 0, 6), 0);
        yes("it answers again", x.ask(3, 2));
        yes("it votes again, for another one", x.propose(4, 0, 2, 5));
        due("both", x.sync(2, 6), 2);
        due("answered", x.ballot(3, 3), 4);
        due("voted", x.tally(4, 0, 5), 4);
        due("not for the lost one", x.tally(4, 0, 6), 0);
    }

    private static void queueLostOfEach() {
        for (int n = 0; n < 7; n++) {
            BallotDesk x = three(2);
            for (int i = 0; i < 3; i++) due("pick", x.pick(1, i, i + 1), i + 1);
            answer(x, 2, n == 0 ? 1 : 0, n == 2 ? 1 : 2);
            pickAll(x, 2, 7);
            for (int i = 0; i < 3; i++) voteSynced(x, 1, i, n);
            for (int i = 0; i < 3; i++) yes("vote in 2", x.vote(2, i, n));
            for (int i = 0; i < 3; i++) due("for itself", x.node(n, 2 + i), 23);
            yes("down", x.power(n, false));
            for (int i = 0; i < 3; i++) due("as it was synced, node " + n, x.node(n, 2 + i), 9 + i);
            for (int i = 0; i < 3; i++) due("and for all others", x.node(n, 6 + i), 9 + i);
            yes("up", x.power(n, true));
            for (int i = 0; i < 3; i++) yes("it may vote again", x.vote(2, i, n));
        }
    }

    private static void promiseBelow() {
        BallotDesk x = three(4);
        yes("0 is below 3", x.ask(3, 0));
        no("3 is not below 3", x.ask(3, 0));
        no("nor below 2", x.ask(2, 0));
        yes("but below 4", x.ask(4, 0));
        due("two", x.sync(0, 6), 2);
        no("the same when synced", x.ask(4, 0));
        no("the same when synced", x.ask(3, 0));
        due("two have one each", x.ballot(3, 3) + x.ballot(4, 3), 2);
        due("2 has none", x.ballot(2, 3), 0);
    }

    private static void answersUp() {
        unchanged(() -> down(three(2)), x -> no("down", x.ask(2, 2)));
        BallotDesk x = down(three(2));
        yes("up", x.power(2, true));
        yes("again", x.ask(2, 2));
    }

    private static BallotDesk down(BallotDesk x) {
        yes("down", x.power(2, false));
        return x;
    }

    private static void readyFirst() {
        BallotDesk x = three(2);
        due("1 is, without an answer", x.ballot(1, 4), 1);
        due("2 is not", x.ballot(2, 4), 0);
        due("so 1 may pick", x.pick(1, 0, 1), 1);
        due("and 2 not", x.pick(2, 0, 1), REFUSED);
    }

    private static void readyAll() {
        BallotDesk x = new BallotDesk();
        for (int s = 0; s < 4; s++) yes("node s", x.define(s, COUNT, 1 << s, 1, 1, 0));
        for (int s = 0; s < 4; s++) due("begin", x.begin(s, false), s + 1);
        answer(x, 4, 3);
        due("its own system does not count", x.ballot(4, 4), 0);
        answer(x, 4, 1);
        due("not just one in the middle", x.ballot(4, 4), 0);
        answer(x, 4, 2);
        due("not without the first", x.ballot(4, 4), 0);
        answer(x, 4, 0);
        due("all below it", x.ballot(4, 4), 1);
        BallotDesk y = new BallotDesk();
        for (int s = 0; s < 4; s++) yes("node s", y.define(s, COUNT, 1 << s, 1, 1, 0));
        for (int s = 0; s < 4; s++) due("begin", y.begin(s, false), s + 1);
        answer(y, 4, 0, 1);
        due("not without the one next to it", y.ballot(4, 4), 0);
        answer(y, 4, 2);
        due("without a node of its own", y.ballot(4, 4), 1);
    }

    private static void readyFromBase() {
        BallotDesk x = new BallotDesk();
        for (int s = 0; s < 4; s++) yes("node s", x.define(s, COUNT, 1 << s, 1, 1, 0));
        due("begin", x.begin(0, false), 1);
        due("begin", x.begin(1, false), 2);
        answer(x, 2, 0);
        pickAll(x, 2, 1);
        yes("completed", x.complete(2));
        due("begin", x.begin(2, false), 3);
        due("begin", x.begin(3, false), 4);
        answer(x, 4, 2);
        due("not without the base", x.ballot(4, 4), 0);
        answer(x, 4, 1);
        due("without what is below the base", x.ballot(4, 4), 1);
        answer(x, 3, 0);
        due("what is below the base does not help", x.ballot(3, 4), 0);
    }

    private static void freeWithoutVotes() {
        BallotDesk x = three(3);
        pickAll(x, 1, 6);
        voteSynced(x, 1, 0, 2);
        answer(x, 2, 0, 1);
        due("who voted did not answer", x.pick(2, 0, 4), 4);
        due("free", x.ballot(2, 9), 1);
        answer(x, 2, 2);
        due("one that answers later", x.pick(2, 1, 4), 4);
        due("is not looked at for what was picked", x.ballot(2, 6), 4);
        due("the first one is free, too", x.ballot(1, 9), 1);
    }

    private static void votesFromBase() {
        BallotDesk x = three(2);
        pickAll(x, 1, 6);
        voteSynced(x, 1, 0, 2);
        answer(x, 2, 0, 1);
        pickAll(x, 2, 3);
        yes("completed", x.complete(2));
        voteSynced(x, 2, 1, 2);
        due("begin", x.begin(0, false), 3);
        answer(x, 3, 1, 2);
        due("below the base", x.pick(3, 0, 5), 5);
        due("free", x.ballot(3, 9), 1);
        due("in the base", x.pick(3, 1, 5), 3);
        due("not free", x.ballot(3, 10), 0);
        BallotDesk y = three(2);
        pickAll(y, 1, 6);
        voteSynced(y, 1, 0, 2);
        answer(y, 2, 1, 2);
        due("without a base all are looked at, from 1 on", y.pick(2, 0, 5), 6);
    }

    private static void greatestBallot() {
        BallotDesk x = three(4);
        pickAll(x, 1, 7);
        answer(x, 2, 0, 1);
        pickAll(x, 2, 4);
        answer(x, 3, 0, 1);
        pickAll(x, 3, 2);
        voteSynced(x, 1, 0, 6);
        voteSynced(x, 3, 0, 5);
        voteSynced(x, 2, 0, 2);
        answer(x, 4, 6, 5, 2, 0);
        due("neither the first nor the last node's, nor the greatest value", x.pick(4, 0, 1), 2);
    }

    private static void keptOfEach() {
        for (int n = 0; n < 7; n++) {
            for (int i = 0; i < 3; i++) {
                BallotDesk x = new BallotDesk();
                yes("4 of 7", x.define(0, COUNT, 127, 4, 4, 0));
                for (int b = 1; b <= 2; b++) due("begin", x.begin(0, false), b);
                pickAll(x, 1, 6);
                voteSynced(x, 1, i, n);
                answer(x, 2, n, (n + 1) % 7, (n + 2) % 7, (n + 3) % 7);
                for (int j = 0; j < 3; j++) due("node " + n + ", instance " + i, x.pick(2, j, 5), j == i ? 6 : 5);
            }
        }
    }

    private static void keptByAnother() {
        BallotDesk x = three(4);
        pickAll(x, 1, 6);
        for (int i = 0; i < 3; i++) voteSynced(x, 1, i, 6);
        answer(x, 2, 6);
        answer(x, 3, 0, 1);
        for (int i = 0; i < 3; i++) due("2 keeps votes of node 6, not 3", x.pick(3, i, 5), 5);
        BallotDesk y = three(4);
        pickAll(y, 1, 6);
        for (int i = 0; i < 3; i++) voteSynced(y, 1, i, 0);
        answer(y, 4, 0);
        answer(y, 3, 1, 2);
        for (int i = 0; i < 3; i++) due("4 keeps votes of node 0, not 3", y.pick(3, i, 5), 5);
        BallotDesk z = fastFour();
        due("begin", z.begin(0, false), 3);
        due("begin", z.begin(0, false), 4);
        proposeSynced(z, 1, 0, 7, 0, 1, 2, 6);
        answer(z, 2, 6);
        answer(z, 4, 0);
        answer(z, 3, 1, 2, 3);
        due("two, and node 0 that did not answer 3", z.pick(3, 0, 5), 7);
    }

    /** Nodes 0 and 1 are a FAST quorum of one SYSTEM, nodes 2 to 4 of the other one. */
    private static void systemOfK() {
        for (int first = 0; first < 2; first++) {
            BallotDesk x = new BallotDesk();
            yes("define", x.define(first, LISTS, 3, 3, 3, 0));
            yes("define", x.define(1 - first, LISTS, 28, 28, 28, 0));
            due("fast", x.begin(0, true), 1);
            due("not", x.begin(1, false), 2);
            due("any", x.pick(1, 0, 1), 0);
            if (first == 0) {
                proposeSynced(x, 1, 0, 6, 0, 1);
                answer(x, 2, 0, 1);
            } else {
                proposeSynced(x, 1, 0, 6, 2, 3, 4);
                answer(x, 2, 2, 3, 4);
            }
            due("those that voted in 1 are one of its SYSTEM", x.pick(2, 0, 5), 6);
        }
        BallotDesk y = new BallotDesk();
        yes("all seven are FAST", y.define(0, COUNT, 127, 1, 7, 7));
        yes("one is FAST", y.define(1, COUNT, 1, 1, 1, 1));
        due("fast", y.begin(0, true), 1);
        due("not", y.begin(1, false), 2);
        due("any", y.pick(1, 0, 1), 0);
        proposeSynced(y, 1, 0, 6, 0);
        answer(y, 2, 0, 1);
        due("node 1 is missing for the SYSTEM of 1", y.pick(2, 0, 5), 5);
    }

    /** Five are FAST, three WRITE; one of seven does not ANSWER, and four of the others have VOTED for the same value. */
    private static void silentOfEach() {
        for (int silent = 0; silent < 7; silent++) {
            for (int i = 0; i < 3; i++) {
                due("four with node " + silent, pickWithout(silent, i, 4), 6);
                due("three with node " + silent, pickWithout(silent, i, 3), 5);
            }
        }
    }

    private static int pickWithout(int silent, int i, int votes) {
        BallotDesk x = new BallotDesk();
        yes("define", x.define(0, COUNT, 127, 5, 3, 5));
        due("fast", x.begin(0, true), 1);
        due("not", x.begin(0, false), 2);
        due("any", x.pick(1, i, 1), 0);
        for (int next = 1; next <= votes; next++) proposeSynced(x, 1, i, 6, (silent + next) % 7);
        for (int next = 1; next <= 6; next++) answer(x, 2, (silent + next) % 7);
        return x.pick(2, i, 5);
    }

    private static void silentNodes() {
        BallotDesk x = fastFour();
        proposeSynced(x, 1, 0, 7, 0, 1);
        proposeSynced(x, 1, 0, 3, 3);
        answer(x, 2, 0, 1, 2);
        due("two and the one that is silent", x.pick(2, 0, 1), 7);
        due("not free", x.ballot(2, 9), 0);
        BallotDesk y = fastFour();
        proposeSynced(y, 1, 0, 7, 0, 1);
        proposeSynced(y, 1, 0, 3, 3);
        answer(y, 2, 0, 1, 2, 3);
        due("when it is not, two are not enough", y.pick(2, 0, 1), 1);
        due("free", y.ballot(2, 9), 1);
        BallotDesk z = fastFour();
        proposeSynced(z, 1, 0, 7, 0);
        answer(z, 2, 0, 1, 2);
        due("one and the one that is silent are not enough", z.pick(2, 0, 1), 1);
        BallotDesk w = fastFour();
        proposeSynced(w, 1, 0, 1, 0, 1, 2);
        answer(w, 2, 0, 1, 2, 3);
        due("three without any that is silent", w.pick(2, 0, 7), 1);
    }

    private static void freeAfterAny() {
        BallotDesk x = fastFour();
        due("a fast one", x.begin(0, true), 3);
        proposeSynced(x, 1, 0, 7, 0);
        proposeSynced(x, 1, 0, 6, 1);
        proposeSynced(x, 1, 0, 5, 2);
        answer(x, 2, 0, 1, 2);
        answer(x, 3, 0, 1, 2);
        due("the value that is given", x.pick(2, 0, 4), 4);
        due("free", x.ballot(2, 9), 1);
        due("any, if it is fast", x.pick(3, 0, 4), 0);
        due("free", x.ballot(3, 9), 1);
    }

    private static void freePicks() {
        BallotDesk x = three();
        due("fast", x.begin(0, true), 1);
        due("not", x.begin(0, false), 2);
        for (int i = 0; i < 3; i++) due("any", x.pick(1, i, 7), 0);
        answer(x, 2, 0, 1);
        for (int i = 0; i < 3; i++) due("given", x.pick(2, i, 7 - 3 * i), 7 - 3 * i);
        for (int what = 9; what < 12; what++) {
            due("free", x.ballot(1, what), 1);
            due("free", x.ballot(2, what), 1);
        }
        BallotDesk y = three(1);
        due("fast", y.begin(0, true), 2);
        pickAll(y, 1, 6);
        voteSynced(y, 1, 0, 0);
        answer(y, 2, 0, 1);
        due("a fast one that is not free has a value", y.pick(2, 0, 1), 6);
        yes("and it is voted for as such", y.vote(2, 0, 1));
        no("not as any", y.propose(2, 0, 2, 6));
    }

    private static void canVotePicked() {
        BallotDesk x = three(2);
        due("just for 1", x.pick(1, 1, 6), 6);
        no("below", x.vote(1, 0, 0));
        no("above", x.vote(1, 2, 0));
        no("in another ballot", x.vote(2, 1, 0));
        due("nothing was written", x.node(0, 9), 0);
        yes("there", x.vote(1, 1, 0));
    }

    private static void canVotePromise() {
        BallotDesk x = three(3);
        answer(x, 2, 0, 1);
        pickAll(x, 2, 5);
        yes("promise is 2", x.vote(2, 0, 0));
        yes("promise is 0", x.vote(2, 0, 2));
        yes("ask", x.ask(3, 1));
        no("promise is 3, for itself", x.vote(2, 0, 1));
        due("sync", x.sync(1, 1), 1);
        no("promise is 3, for all others", x.vote(2, 0, 1));
        yes("ask", x.ask(1, 3));
        yes("promise is 1", x.vote(2, 0, 3));
    }

    private static void canVoteVote() {
        BallotDesk x = three(2);
        pickAll(x, 1, 6);
        yes("none", x.vote(1, 0, 0));
        no("in 1", x.vote(1, 0, 0));
        due("sync", x.sync(0, 1), 1);
        no("in 1, synced", x.vote(1, 0, 0));
        yes("for another instance none", x.vote(1, 1, 0));
        due("sync", x.sync(0, 1), 1);
        answer(x, 2, 1, 2);
        pickAll(x, 2, 5);
        yes("in 1, which is below 2", x.vote(2, 0, 0));
        no("in 2", x.vote(2, 0, 0));
        no("not back in 1", x.vote(1, 2, 0));
    }

    private static void chosenWrite() {
        BallotDesk x = new BallotDesk();
        yes("3 of 5", x.define(0, COUNT, 31, 3, 3, 0));
        due("begin", x.begin(0, false), 1);
        pickAll(x, 1, 7);
        voteSynced(x, 1, 0, 0, 4, 5, 6);
        due("two of them, and two others", x.chosen(0), 0);
        yes("vote", x.vote(1, 0, 2));
        due("not synced", x.chosen(0), 0);
        due("sync", x.sync(2, 1), 1);
        due("three", x.chosen(0), 7);
    }

    private static void chosenFast() {
        BallotDesk x = three();
        due("fast", x.begin(0, true), 1);
        due("any", x.pick(1, 0, 1), 0);
        proposeSynced(x, 1, 0, 7, 0, 1, 3, 4, 5, 6);
        due("a WRITE quorum, and all but one", x.chosen(0), 0);
        proposeSynced(x, 1, 0, 7, 2);
        due("a FAST one", x.chosen(0), 7);
        BallotDesk y = three();
        due("fast", y.begin(0, true), 1);
        due("any", y.pick(1, 0, 1), 0);
        proposeSynced(y, 1, 0, 7, 0, 1);
        proposeSynced(y, 1, 0, 6, 2);
        due("not for the same value", y.chosen(0), 0);
    }

    private static void chosenEver() {
        BallotDesk x = three();
        yes("another system", x.define(1, COUNT, 120, 2, 3, 0));
        due("begin", x.begin(0, false), 1);
        due("begin", x.begin(1, false), 2);
        pickAll(x, 1, 6);
        voteSynced(x, 1, 0, 0);
        answer(x, 2, 1, 2);
        pickAll(x, 2, 3);
        voteSynced(x, 2, 0, 0);
        due("its vote is another one", x.node(0, 6), 19);
        due("it ever voted for 6", x.tally(1, 0, 6), 1);
        due("6 in 1 and 3 in 2 are none", x.chosen(0), 0);
        BallotDesk y = three(2);
        pickAll(y, 1, 6);
        voteSynced(y, 1, 0, 0, 1);
        answer(y, 2, 0, 2);
        due("bound", y.pick(2, 0, 3), 6);
        voteSynced(y, 2, 0, 0, 1);
        yes("down", y.power(0, false));
        due("chosen in 1 as before", y.tally(1, 0, 6), 3);
        due("nobody needs to vote in 1 any more", y.votes(1, 0, 6), 0);
    }

    private static void possiblePicked() {
        BallotDesk x = three(1);
        due("nothing picked", x.possible(0), 0);
        due("pick", x.pick(1, 0, 1), 1);
        due("just this one", x.possible(0), 2);
        due("just there", x.possible(1), 0);
        BallotDesk y = fastFour();
        due("any: all seven", y.possible(0), 254);
        due("just there", y.possible(2), 0);
        answer(y, 2, 0, 1, 2);
        due("all are gone", y.possible(0), 0);
        due("pick", y.pick(2, 0, 7), 7);
        due("in another ballot", y.possible(0), 128);
    }

    private static void possibleOthers() {
        BallotDesk x = three(2);
        due("pick", x.pick(1, 0, 7), 7);
        voteSynced(x, 1, 0, 0);
        answer(x, 2, 2);
        yes("ask", x.ask(2, 1));
        due("node 1 can for all others", x.possible(0), 128);
        due("sync", x.sync(1, 1), 1);
        due("it cannot", x.possible(0), 0);
        BallotDesk y = three(2);
        due("pick", y.pick(1, 0, 7), 7);
        voteSynced(y, 1, 0, 0);
        yes("vote", y.vote(1, 0, 1));
        answer(y, 2, 2);
        due("a vote that is not synced: it can", y.possible(0), 128);
        due("sync", y.sync(1, 1), 1);
        due("chosen", y.possible(0), 128);
    }

    private static void possibleDown() {
        BallotDesk x = three(1);
        due("pick", x.pick(1, 0, 7), 7);
        for (int n = 0; n < 7; n++) yes("down", x.power(n, false));
        due("all are down", x.possible(0), 128);
    }

    private static void completeReady() {
        BallotDesk x = three(2);
        no("not ready, and nothing picked", x.complete(2));
        answer(x, 2, 0);
        no("one is not enough", x.complete(2));
        answer(x, 2, 1);
        no("ready, but nothing picked", x.complete(2));
        pickAll(x, 2, 1);
        due("not completed", x.ballot(2, 5), 0);
        yes("all is done", x.complete(2));
        due("completed", x.ballot(2, 5), 1);
    }

    private static void completePicked() {
        for (int missing = 0; missing < 3; missing++) {
            BallotDesk x = three(1);
            for (int i = 0; i < 3; i++) {
                if (i != missing) due("pick", x.pick(1, i, 4), 4);
            }
            no("none for " + missing, x.complete(1));
            due("pick", x.pick(1, missing, 4), 4);
            yes("for each", x.complete(1));
        }
        BallotDesk y = three();
        due("fast", y.begin(0, true), 1);
        for (int i = 0; i < 3; i++) due("any", y.pick(1, i, 4), 0);
        yes("any is free", y.complete(1));
    }

    private static void completeChosen() {
        for (int bound = 0; bound < 3; bound++) {
            BallotDesk x = three(2);
            int value = 4 + bound;
            for (int i = 0; i < 3; i++) due("pick", x.pick(1, i, 4 + i), 4 + i);
            voteSynced(x, 1, bound, 0, 1);
            answer(x, 2, 0, 1);
            for (int i = 0; i < 3; i++) due("pick", x.pick(2, i, 1 + i), i == bound ? value : 1 + i);
            due("it is chosen in 1", x.chosen(bound), value);
            no("but not in 2", x.complete(2));
            voteSynced(x, 2, bound, 0, 3);
            no("nor by these", x.complete(2));
            yes("vote", x.vote(2, bound, 2));
            no("nor before it is synced", x.complete(2));
            due("sync", x.sync(2, 1), 1);
            yes("but then", x.complete(2));
        }
    }

    private static void learners() {
        BallotDesk x = three(1);
        pickAll(x, 1, 6);
        voteSynced(x, 1, 0, 0, 1);
        for (int l : outside(0, 1)) {
            due("hear " + l, x.hear(l, 0), REFUSED);
            due("learned " + l, x.learned(l, 0), REFUSED);
        }
        for (int l = 0; l < 2; l++) {
            due("the first " + l, x.hear(l, 0), 0);
            due("nothing yet " + l, x.learned(l, 0), 0);
            due("the second " + l, x.hear(l, 1), 1);
            due("learned " + l, x.learned(l, 0), 6);
        }
    }

    private static void heardSynced() {
        BallotDesk x = three(1);
        pickAll(x, 1, 6);
        voteSynced(x, 1, 0, 0);
        yes("vote", x.vote(1, 0, 1));
        due("hear", x.hear(0, 0), 0);
        due("not synced", x.hear(0, 1), 0);
        yes("down", x.power(1, false));
        yes("up", x.power(1, true));
        due("lost", x.hear(0, 1), 0);
        voteSynced(x, 1, 0, 1);
        due("synced", x.hear(0, 1), 1);
    }

    private static void heardLatest() {
        BallotDesk x = three(2);
        pickAll(x, 1, 6);
        voteSynced(x, 1, 0, 0, 1);
        answer(x, 2, 0, 2);
        due("bound", x.pick(2, 0, 1), 6);
        voteSynced(x, 2, 0, 0);
        due("its vote in 2, not the one in 1", x.hear(0, 0), 0);
        due("so one in each", x.hear(0, 1), 0);
        due("chosen in 1, but not learned", x.chosen(0), 6);
    }

    private static void heardAgain() {
        BallotDesk x = three(1);
        pickAll(x, 1, 6);
        voteSynced(x, 1, 0, 0);
        due("hear", x.hear(0, 0), 0);
        due("too early", x.hear(0, 1), 0);
        voteSynced(x, 1, 0, 1);
        due("synced later", x.learned(0, 0), 0);
        due("hearing another one does not help", x.hear(0, 0), 0);
        due("nor does what the other learner hears", x.hear(1, 1), 0);
        due("still not", x.learned(0, 0), 0);
        due("heard again", x.hear(0, 1), 1);
        due("learned", x.learned(0, 0), 6);
    }

    private static void heardBefore() {
        BallotDesk x = three(2);
        pickAll(x, 1, 6);
        voteSynced(x, 1, 0, 0, 1);
        due("in 1", x.hear(0, 0), 0);
        answer(x, 2, 0, 2);
        due("bound", x.pick(2, 0, 1), 6);
        voteSynced(x, 2, 0, 0);
        due("in 2", x.hear(0, 0), 0);
        due("in 1, besides", x.hear(0, 1), 1);
        due("learned", x.learned(0, 0), 6);
        yes("down", x.power(0, false));
        yes("down", x.power(1, false));
        due("it stays", x.learned(0, 0), 6);
        due("it stays", x.hear(0, 6), 1);
    }

    private static void learnsInOne() {
        BallotDesk x = three(2);
        pickAll(x, 1, 6);
        voteSynced(x, 1, 0, 0);
        answer(x, 2, 0, 1);
        due("bound", x.pick(2, 0, 1), 6);
        voteSynced(x, 2, 0, 1);
        due("in 1", x.hear(0, 0), 0);
        due("in 2", x.hear(0, 1), 0);
        due("not over two ballots", x.learned(0, 0), 0);
        voteSynced(x, 2, 0, 2);
        due("two in 2", x.hear(0, 2), 1);
        due("learned", x.learned(0, 0), 6);
    }
}
