/** Each promise of the document by itself: ordinary inputs, the edges that it names, and wrong inputs. */
public final class PromisesTest extends Checks {
    public static void main(String[] args) {
        newObject();
        defineCount();
        defineGrid();
        defineWeights();
        defineLists();
        defineKeepsWhatWas();
        quorum();
        system();
        begin();
        power();
        ask();
        pick();
        pickAfterFast();
        pickFromBaseOn();
        vote();
        propose();
        sync();
        complete();
        hear();
        node();
        ballot();
        tally();
        chosen();
        possible();
        learned();
        common();
        answers();
        votes();
        drive();
        orderAndLimits();
        farOutside();
        end();
    }

    private static void newObject() {
        part = "promise 1";
        due("REFUSED", BallotDesk.REFUSED, REFUSED);
        due("FULL", BallotDesk.FULL, FULL);
        due("NONE", BallotDesk.NONE, NONE);
        BallotDesk x = new BallotDesk();
        for (int s = 0; s < 4; s++) due("no system", x.quorum(s, READ, 127), REFUSED);
        due("no ballot", x.ballot(1, 0), REFUSED);
        due("no ballot 0", x.ballot(0, 0), REFUSED);
        for (int n = 0; n < 7; n++) {
            due("up", x.node(n, 0), 1);
            for (int what = 1; what <= 9; what++) due("nothing yet", x.node(n, what), 0);
        }
        for (int i = 0; i < 3; i++) {
            due("nothing chosen", x.chosen(i), 0);
            due("nothing possible", x.possible(i), 0);
            due("nothing learned", x.learned(1, i), 0);
        }
        BallotDesk y = three();
        due("y has a ballot", y.begin(0, false), 1);
        due("objects share nothing", x.begin(0, false), REFUSED);
    }

    private static void defineCount() {
        part = "promise 2, COUNT";
        BallotDesk x = new BallotDesk();
        yes("least", x.define(0, COUNT, 1, 1, 1, 1));
        yes("greatest", x.define(3, COUNT, 127, 7, 7, 7));
        for (int a : new int[] {0, 128, -1, Integer.MIN_VALUE}) no("a " + a, x.define(0, COUNT, a, 1, 1, 0));
        for (int b : new int[] {0, 8, -1}) no("b " + b, x.define(0, COUNT, 127, b, 7, 0));
        for (int c : new int[] {0, 8, -1}) no("c " + c, x.define(0, COUNT, 127, 7, c, 0));
        for (int d : new int[] {-1, 8}) no("d " + d, x.define(0, COUNT, 127, 7, 7, d));
        for (int s : new int[] {-1, 4}) no("s " + s, x.define(s, COUNT, 127, 7, 7, 0));
        for (int sort : new int[] {-1, 4}) no("sort " + sort, x.define(0, sort, 1, 1, 1, 1));
        no("no READ quorum", x.define(0, COUNT, 7, 4, 3, 0));
        no("no WRITE quorum", x.define(0, COUNT, 7, 3, 4, 0));
        yes("no FAST quorum is fine", x.define(0, COUNT, 7, 2, 2, 4));
        no("READ beside WRITE", x.define(0, COUNT, 31, 2, 3, 0));
        yes("READ meets WRITE", x.define(0, COUNT, 31, 3, 3, 0));
        no("READ beside two FAST", x.define(0, COUNT, 31, 3, 3, 3));
        yes("READ meets two FAST", x.define(0, COUNT, 31, 3, 3, 4));
        no("also if two FAST meet", x.define(0, COUNT, 15, 2, 3, 3));
        yes("READ 3 of 4", x.define(0, COUNT, 15, 3, 3, 3));
    }

    private static void defineGrid() {
        part = "promise 2, GRID";
        BallotDesk x = new BallotDesk();
        yes("one node", x.define(0, GRID, 1, 1, 0, 0));
        yes("1 by 7", x.define(0, GRID, 1, 7, 0, 1));
        yes("7 by 1", x.define(0, GRID, 7, 1, 0, 0));
        no("0 by 1", x.define(0, GRID, 0, 1, 0, 0));
        no("1 by 0", x.define(0, GRID, 1, 0, 0, 0));
        no("8 by 1", x.define(0, GRID, 8, 1, 0, 0));
        no("-2 by -3", x.define(0, GRID, -2, -3, 0, 0));
        no("2 by 4", x.define(0, GRID, 2, 4, 0, 0));
        no("a product that wraps around", x.define(0, GRID, 65536, 65536, 0, 0));
        yes("c is not looked at", x.define(0, GRID, 2, 3, Integer.MIN_VALUE, 0));
        due("d 0: no FAST", x.quorum(0, FAST, 127), 0);
        yes("any d but 0", x.define(0, GRID, 2, 3, 0, -9));
        due("FAST", x.quorum(0, FAST, 127), 1);
        no("FAST columns of two share none", x.define(0, GRID, 2, 2, 0, 1));
        no("all columns but the one are none", x.define(0, GRID, 2, 1, 0, 1));
        yes("2 by 2 without FAST", x.define(0, GRID, 2, 2, 0, 0));
    }

    private static void defineWeights() {
        part = "promise 2, WEIGHTS";
        BallotDesk x = new BallotDesk();
        yes("one node weighs", x.define(0, WEIGHTS, 1, 1, 1, 1));
        yes("greatest", x.define(0, WEIGHTS, 9999999, 63, 63, 63));
        no("a too great", x.define(0, WEIGHTS, 10000000, 1, 1, 0));
        no("a negative", x.define(0, WEIGHTS, -1, 1, 1, 0));
        no("nobody weighs", x.define(0, WEIGHTS, 0, 1, 1, 0));
        for (int b : new int[] {0, 64}) no("b " + b, x.define(0, WEIGHTS, 9999999, b, 63, 0));
        for (int c : new int[] {0, 64}) no("c " + c, x.define(0, WEIGHTS, 9999999, 63, c, 0));
        for (int d : new int[] {-1, 64}) no("d " + d, x.define(0, WEIGHTS, 9999999, 63, 63, d));
        no("more than all weigh", x.define(0, WEIGHTS, 1111111, 8, 1, 0));
        no("5 of 10 beside 5 of 10", x.define(0, WEIGHTS, 55, 5, 5, 0));
        yes("5 of 10 meets 6 of 10", x.define(0, WEIGHTS, 55, 5, 6, 0));
        no("5 of 10 beside 6 of 10 in small coins", x.define(0, WEIGHTS, 1111111, 3, 4, 0));
        yes("FAST is more than all", x.define(0, WEIGHTS, 111, 2, 2, 4));
        due("so none", x.system(0, FAST, 0), NONE);
    }

    private static void defineLists() {
        part = "promise 2, LISTS";
        BallotDesk x = new BallotDesk();
        int most = 268435455;
        yes("greatest", x.define(0, LISTS, most, most, most, -5));
        no("a too great", x.define(0, LISTS, most + 1, 1, 0, 0));
        no("b too great", x.define(0, LISTS, 1, most + 1, 0, 0));
        no("c too great", x.define(0, LISTS, 1, 1, most + 1, 0));
        no("a negative", x.define(0, LISTS, -1, 1, 0, 0));
        no("b negative", x.define(0, LISTS, 1, -1, 0, 0));
        no("c negative", x.define(0, LISTS, 1, 1, -1, 0));
        no("no READ", x.define(0, LISTS, 0, 1, 0, 0));
        no("no WRITE", x.define(0, LISTS, 1, 0, 0, 0));
        yes("d is not looked at", x.define(0, LISTS, 3, 5, 0, Integer.MIN_VALUE));
        due("c 0: no FAST", x.quorum(0, FAST, 127), 0);
        no("the fourth set is looked at", x.define(0, LISTS, 1 + 2 * 128 * 128 * 128, 1, 0, 0));
        no("a FAST pair without READ", x.define(0, LISTS, 1, 1, 3 + 128 * 6, 0));
        yes("FAST pairs with READ", x.define(0, LISTS, 2, 2, 3 + 128 * 6, 0));
        due("FAST by c", x.quorum(0, FAST, 6), 1);
    }

    private static void defineKeepsWhatWas() {
        part = "promise 2, nothing changes";
        BallotDesk x = three();
        no("not sound", x.define(0, COUNT, 127, 1, 1, 0));
        due("READ as before", x.quorum(0, READ, 3), 1);
        due("one node is none", x.quorum(0, READ, 1), 0);
        no("not sound, new", x.define(1, COUNT, 127, 1, 1, 0));
        due("still none", x.quorum(1, READ, 127), REFUSED);
        yes("again, another", x.define(0, COUNT, 1, 1, 1, 0));
        due("is taken", x.quorum(0, READ, 1), 1);
        due("begin", x.begin(0, false), 1);
        no("has a ballot", x.define(0, COUNT, 7, 2, 2, 3));
        due("READ kept", x.quorum(0, READ, 1), 1);
        yes("another has none", x.define(1, COUNT, 7, 2, 2, 3));
    }

    private static void quorum() {
        part = "promise 3";
        BallotDesk x = new BallotDesk();
        yes("count", x.define(0, COUNT, 0b1010110, 2, 3, 4));
        due("READ", x.quorum(0, READ, 0b0010010), 1);
        due("others do not count", x.quorum(0, READ, 0b0101011), 0);
        due("a set with more", x.quorum(0, READ, 0b0111011), 1);
        due("WRITE", x.quorum(0, WRITE, 0b1010010), 1);
        due("WRITE too small", x.quorum(0, WRITE, 0b1000010), 0);
        due("FAST", x.quorum(0, FAST, 0b1010110), 1);
        due("FAST too small", x.quorum(0, FAST, 0b1111101), 0);
        yes("grid", x.define(1, GRID, 2, 3, 0, 1));
        due("first row", x.quorum(1, READ, 0b000111), 1);
        due("second row", x.quorum(1, READ, 0b111000), 1);
        due("no row", x.quorum(1, READ, 0b1011011), 0);
        due("column 1", x.quorum(1, WRITE, 0b010010), 1);
        due("no column", x.quorum(1, WRITE, 0b1001010), 0);
        due("columns 0 and 2", x.quorum(1, FAST, 0b101101), 1);
        due("one column and more", x.quorum(1, FAST, 0b1101110), 0);
        yes("weights", x.define(2, WEIGHTS, 7000321, 7, 7, 0));
        due("node 6 weighs 7", x.quorum(2, READ, 64), 1);
        due("nodes 0..2 weigh 6", x.quorum(2, READ, 0b0111111), 0);
        due("d 0", x.quorum(2, FAST, 127), 0);
        yes("lists", x.define(3, LISTS, 3 + 128 * 5, 1 + 128 * 128 * 6, 128 * 128 * 128 * 127, 0));
        due("READ, second", x.quorum(3, READ, 5), 1);
        due("READ, none", x.quorum(3, READ, 6), 0);
        due("WRITE, third", x.quorum(3, WRITE, 6), 1);
        due("WRITE, none", x.quorum(3, WRITE, 2), 0);
        due("FAST, fourth", x.quorum(3, FAST, 127), 1);
        due("FAST, none", x.quorum(3, FAST, 126), 0);
        due("empty", x.quorum(3, READ, 0), 0);
        due("set 128", x.quorum(0, READ, 128), REFUSED);
        due("set -1", x.quorum(0, READ, -1), REFUSED);
        due("kind 3", x.quorum(0, 3, 1), REFUSED);
        due("kind -1", x.quorum(0, -1, 1), REFUSED);
        due("system 4", x.quorum(4, READ, 1), REFUSED);
        due("system -1", x.quorum(-1, READ, 1), REFUSED);
    }

    private static void system() {
        part = "promise 4";
        BallotDesk x = new BallotDesk();
        yes("grid", x.define(0, GRID, 2, 3, 0, 1));
        int[][] want = {{3, 1, 2}, {2, 2, 3}, {4, 1, 3}};
        for (int kind = 0; kind < 3; kind++) {
            for (int what = 0; what < 3; what++) due("grid " + kind + " " + what, x.system(0, kind, what), want[kind][what]);
        }
        yes("lists with a set in another", x.define(1, LISTS, 3 + 128 * 7, 1 + 128 * 2, 0, 0));
        due("least", x.system(1, READ, 0), 2);
        due("losses", x.system(1, READ, 1), 0);
        due("just the lesser one is tight", x.system(1, READ, 2), 1);
        due("WRITE losses", x.system(1, WRITE, 1), 1);
        due("no FAST: least", x.system(1, FAST, 0), NONE);
        due("no FAST: losses", x.system(1, FAST, 1), NONE);
        due("no FAST: tight", x.system(1, FAST, 2), 0);
        yes("all", x.define(2, COUNT, 127, 7, 1, 0));
        due("WRITE 1 of 7: losses", x.system(2, WRITE, 1), 6);
        due("READ 7 of 7: losses", x.system(2, READ, 1), 0);
        due("WRITE 1 of 7: tight", x.system(2, WRITE, 2), 7);
        yes("a heavy node", x.define(2, WEIGHTS, 3111, 3, 4, 0));
        due("READ: node 3, or the others", x.system(2, READ, 2), 2);
        due("READ least", x.system(2, READ, 0), 1);
        due("WRITE: node 3 and one more", x.system(2, WRITE, 2), 3);
        for (int bad : new int[] {-1, 3}) {
            due("kind " + bad, x.system(0, bad, 0), REFUSED);
            due("what " + bad, x.system(0, READ, bad), REFUSED);
            due("what for no quorums " + bad, x.system(1, FAST, bad), REFUSED);
            due("system " + bad, x.system(bad, READ, 0), REFUSED);
        }
    }

    private static void begin() {
        part = "promise 5";
        BallotDesk x = three();
        yes("without FAST", x.define(1, COUNT, 7, 2, 2, 0));
        due("none", x.begin(2, false), REFUSED);
        due("system -1", x.begin(-1, false), REFUSED);
        due("system 4", x.begin(4, false), REFUSED);
        due("fast without FAST", x.begin(1, true), REFUSED);
        due("first", x.begin(1, false), 1);
        due("second", x.begin(0, true), 2);
        for (int b = 3; b <= 12; b++) due("ballot", x.begin(0, false), b);
        due("13", x.begin(0, false), FULL);
        due("13 again", x.begin(0, true), FULL);
        due("no ballot 13", x.ballot(13, 0), REFUSED);
    }

    private static void power() {
        part = "promise 6";
        BallotDesk x = three();
        for (int n : new int[] {-1, 7}) {
            no("no node", x.power(n, true));
            no("no node", x.power(n, false));
        }
        no("is up", x.power(6, true));
        yes("down", x.power(6, false));
        due("down", x.node(6, 0), 0);
        no("is down", x.power(6, false));
        yes("up", x.power(6, true));
        due("up", x.node(6, 0), 1);
        due("begin", x.begin(0, false), 1);
        pickAll(x, 1, 4);
        voteSynced(x, 1, 0, 0);
        yes("vote", x.vote(1, 1, 0));
        due("begin", x.begin(0, false), 2);
        yes("ask", x.ask(2, 0));
        no("up already keeps the queue", x.power(0, true));
        due("queue", x.node(0, 9), 2);
        yes("down", x.power(0, false));
        due("queue is lost", x.node(0, 9), 0);
        due("promise as synced", x.node(0, 1), 1);
        due("vote as synced", x.node(0, 2), 12);
        due("vote is lost", x.node(0, 3), 0);
        yes("up", x.power(0, true));
        due("nothing to sync", x.sync(0, 6), 0);
        yes("may vote again", x.vote(1, 1, 0));
        yes("may answer again", x.ask(2, 0));
    }

    private static void ask() {
        part = "promise 7";
        BallotDesk x = three();
        no("no ballot", x.ask(1, 0));
        for (int b = 1; b <= 8; b++) due("begin", x.begin(0, false), b);
        no("ballot 0", x.ask(0, 0));
        no("ballot 9", x.ask(9, 0));
        no("node -1", x.ask(1, -1));
        no("node 7", x.ask(1, 7));
        yes("asked", x.ask(2, 6));
        due("promise", x.node(6, 1), 2);
        due("not for others", x.node(6, 5), 0);
        no("asked again", x.ask(2, 6));
        no("asked by a lesser one", x.ask(1, 6));
        for (int b = 3; b <= 7; b++) yes("asked by a greater one", x.ask(b, 6));
        no("full", x.ask(8, 6));
        due("promise as it was", x.node(6, 1), 7);
        due("one synced", x.sync(6, 1), 1);
        yes("room for one", x.ask(8, 6));
        yes("down", x.power(5, false));
        no("down", x.ask(1, 5));
        due("voting promises, too: pick", x.pick(1, 0, 1), 1);
        yes("vote", x.vote(1, 0, 0));
        no("promised by the vote", x.ask(1, 0));
        yes("greater", x.ask(2, 0));
    }

    private static void pick() {
        part = "promise 8";
        BallotDesk x = three();
        due("no ballot", x.pick(1, 0, 1), REFUSED);
        due("begin", x.begin(0, false), 1);
        for (int v : new int[] {-1, 0, 8}) due("value " + v, x.pick(1, 0, v), REFUSED);
        for (int i : new int[] {-1, 3}) due("instance " + i, x.pick(1, i, 1), REFUSED);
        due("ballot 0", x.pick(0, 0, 1), REFUSED);
        due("ballot 2", x.pick(2, 0, 1), REFUSED);
        due("nothing picked", x.ballot(1, 6), NONE);
        due("free", x.pick(1, 0, 7), 7);
        due("again", x.pick(1, 0, 6), REFUSED);
        due("as picked", x.ballot(1, 6), 7);
        due("begin", x.begin(0, false), 2);
        due("begin", x.begin(0, true), 3);
        answer(x, 2, 0);
        due("not ready", x.pick(2, 0, 5), REFUSED);
        voteSynced(x, 1, 0, 1);
        answer(x, 2, 1);
        due("needed or not, a value is to be given", x.pick(2, 0, 0), REFUSED);
        due("what 1 picked", x.pick(2, 0, 5), 7);
        due("not free", x.ballot(2, 9), 0);
        due("another instance is free", x.pick(2, 1, 5), 5);
        due("free", x.ballot(2, 10), 1);
        voteSynced(x, 2, 1, 0);
        answer(x, 3, 0, 2);
        due("0 and 2 kept nothing: any", x.pick(3, 0, 3), 0);
        due("what 2 picked, also in a fast one", x.pick(3, 1, 3), 5);
        due("any", x.pick(3, 2, 3), 0);
        latestKeptWins();
        keptAsOfTheAnswer();
    }

    private static void latestKeptWins() {
        BallotDesk x = three();
        for (int b = 1; b <= 4; b++) due("begin", x.begin(0, false), b);
        due("pick 1", x.pick(1, 0, 2), 2);
        answer(x, 2, 0, 1);
        due("pick 2", x.pick(2, 0, 6), 6);
        voteSynced(x, 1, 0, 2);
        voteSynced(x, 2, 0, 0);
        answer(x, 3, 0, 2);
        due("the latest, not the least value", x.pick(3, 0, 4), 6);
        answer(x, 4, 2, 1);
        due("just those that answered", x.pick(4, 0, 4), 2);
    }

    private static void keptAsOfTheAnswer() {
        BallotDesk x = three();
        for (int b = 1; b <= 2; b++) due("begin", x.begin(0, false), b);
        due("pick 1", x.pick(1, 0, 2), 2);
        yes("vote is not synced", x.vote(1, 0, 0));
        yes("ask", x.ask(2, 0));
        due("vote and answer", x.sync(0, 2), 2);
        answer(x, 2, 1);
        due("the vote before the answer is kept", x.pick(2, 0, 4), 2);
        voteSynced(x, 2, 0, 1);
        due("not what comes after it", x.pick(2, 1, 4), 4);
        BallotDesk y = three();
        for (int b = 1; b <= 2; b++) due("begin", y.begin(0, false), b);
        due("pick 1", y.pick(1, 0, 2), 2);
        yes("vote", y.vote(1, 0, 0));
        yes("down", y.power(0, false));
        yes("up", y.power(0, true));
        answer(y, 2, 0, 1);
        due("a lost vote binds nothing", y.pick(2, 0, 4), 4);
        BallotDesk z = three();
        for (int b = 1; b <= 3; b++) due("begin", z.begin(0, false), b);
        answer(z, 2, 1);
        answer(z, 3, 1, 2);
        due("pick 3", z.pick(3, 0, 6), 6);
        yes("ask", z.ask(2, 0));
        yes("a vote behind the answer in the queue", z.vote(3, 0, 0));
        due("just the answer is synced", z.sync(0, 1), 1);
        due("so the vote is not kept", z.pick(2, 0, 4), 4);
    }

    private static void pickAfterFast() {
        part = "promise 8, after ANY";
        BallotDesk x = fastFour();
        proposeSynced(x, 1, 0, 5, 0, 1);
        proposeSynced(x, 1, 0, 2, 2);
        answer(x, 2, 0, 1, 2);
        due("5 may be chosen with node 3", x.pick(2, 0, 7), 5);
        due("not free", x.ballot(2, 9), 0);
        BallotDesk y = fastFour();
        proposeSynced(y, 1, 0, 5, 0);
        proposeSynced(y, 1, 0, 6, 1);
        proposeSynced(y, 1, 0, 4, 2);
        answer(y, 2, 0, 1, 2);
        due("none may be chosen", y.pick(2, 0, 7), 7);
        due("free", y.ballot(2, 9), 1);
        BallotDesk z = fastFour();
        proposeSynced(z, 1, 0, 5, 0, 1);
        answer(z, 2, 0, 1, 2, 3);
        due("all answered: two are not enough", z.pick(2, 0, 7), 7);
        BallotDesk w = fastFour();
        due("a fast one after it", w.begin(0, true), 3);
        proposeSynced(w, 1, 0, 5, 0);
        answer(w, 3, 0, 1, 2);
        due("free again: any", w.pick(3, 0, 7), 0);
        due("free", w.ballot(3, 9), 1);
        BallotDesk v = fastFour();
        due("a fast one after it", v.begin(0, true), 3);
        proposeSynced(v, 1, 0, 5, 0, 1, 2);
        answer(v, 3, 0, 1, 3);
        due("bound also if fast", v.pick(3, 0, 7), 5);
        otherSystemAfterFast();
    }

    private static void otherSystemAfterFast() {
        BallotDesk x = new BallotDesk();
        yes("FAST are {0, 1} and {0, 2}", x.define(0, LISTS, 1, 1, 3 + 128 * 5, 0));
        yes("all", x.define(1, COUNT, 127, 1, 7, 0));
        due("fast", x.begin(0, true), 1);
        due("any", x.pick(1, 0, 1), 0);
        due("begin", x.begin(1, false), 2);
        proposeSynced(x, 1, 0, 6, 0);
        answer(x, 2, 0);
        due("the SYSTEM of k, not of b, says what is FAST", x.pick(2, 0, 3), 6);
        BallotDesk y = new BallotDesk();
        yes("WRITE is 2 of 3, FAST all", y.define(0, COUNT, 7, 2, 2, 3));
        due("fast", y.begin(0, true), 1);
        due("any", y.pick(1, 0, 1), 0);
        due("begin", y.begin(0, false), 2);
        proposeSynced(y, 1, 0, 7, 0);
        proposeSynced(y, 1, 0, 5, 1);
        answer(y, 2, 0, 1);
        due("one vote and the silent node are no FAST quorum", y.pick(2, 0, 3), 3);
        BallotDesk z = new BallotDesk();
        yes("WRITE is 2 of 3, FAST all", z.define(0, COUNT, 7, 2, 2, 3));
        due("fast", z.begin(0, true), 1);
        due("any", z.pick(1, 0, 1), 0);
        due("begin", z.begin(0, false), 2);
        proposeSynced(z, 1, 0, 7, 0, 1);
        answer(z, 2, 0, 1);
        due("two votes and the silent node are", z.pick(2, 0, 3), 7);
    }

    private static void pickFromBaseOn() {
        part = "promise 8, BASE";
        BallotDesk x = three();
        due("begin", x.begin(0, false), 1);
        due("begin", x.begin(0, false), 2);
        pickAll(x, 1, 3);
        voteSynced(x, 1, 0, 2);
        answer(x, 2, 0, 1);
        pickAll(x, 2, 4);
        yes("free: complete", x.complete(2));
        due("begin", x.begin(0, false), 3);
        due("base", x.ballot(3, 2), 2);
        answer(x, 3, 0, 2);
        due("a vote below the base is not looked at", x.pick(3, 0, 5), 5);
        due("free", x.ballot(3, 9), 1);
        BallotDesk y = three();
        due("begin", y.begin(0, false), 1);
        pickAll(y, 1, 3);
        yes("complete", y.complete(1));
        voteSynced(y, 1, 0, 2);
        due("begin", y.begin(0, false), 2);
        due("not ready: the base itself is to be read", y.pick(2, 0, 5), REFUSED);
        answer(y, 2, 0, 2);
        due("a vote in the base is", y.pick(2, 0, 5), 3);
    }

    private static void vote() {
        part = "promise 9";
        BallotDesk x = three();
        no("no ballot", x.vote(1, 0, 0));
        due("begin", x.begin(0, false), 1);
        no("nothing picked", x.vote(1, 0, 0));
        pickAll(x, 1, 6);
        no("ballot 0", x.vote(0, 0, 0));
        no("ballot 2", x.vote(2, 0, 0));
        for (int i : new int[] {-1, 3}) no("instance " + i, x.vote(1, i, 0));
        for (int n : new int[] {-1, 7}) no("node " + n, x.vote(1, 0, n));
        yes("vote", x.vote(1, 2, 6));
        due("for itself", x.node(6, 4), 14);
        due("promise for itself", x.node(6, 1), 1);
        due("not for others", x.node(6, 8), 0);
        no("once", x.vote(1, 2, 6));
        yes("another instance", x.vote(1, 0, 6));
        due("synced", x.sync(6, 6), 2);
        no("once, also when synced", x.vote(1, 2, 6));
        yes("down", x.power(5, false));
        no("down", x.vote(1, 0, 5));
        for (int b = 2; b <= 9; b++) due("begin", x.begin(0, false), b);
        answer(x, 2, 0, 1);
        due("pick", x.pick(2, 0, 1), 1);
        yes("ask", x.ask(3, 0));
        no("promised more, though not synced", x.vote(2, 0, 0));
        yes("promise is the ballot", x.vote(2, 0, 1));
        no("the vote promises, too", x.vote(1, 0, 1));
        no("another instance, too", x.vote(1, 1, 1));
        for (int b = 2; b <= 7; b++) yes("ask", x.ask(b, 3));
        no("promise above", x.vote(1, 0, 3));
        fullQueueWritesNoVote();
        BallotDesk y = fastFour();
        no("any", y.vote(1, 0, 0));
    }

    private static void fullQueueWritesNoVote() {
        BallotDesk x = three();
        for (int b = 1; b <= 3; b++) due("begin", x.begin(0, false), b);
        pickAll(x, 1, 6);
        answer(x, 2, 0, 1);
        pickAll(x, 2, 5);
        for (int i = 0; i < 3; i++) yes("vote in 1", x.vote(1, i, 3));
        for (int i = 0; i < 3; i++) yes("vote in 2", x.vote(2, i, 3));
        answer(x, 3, 0, 1);
        due("pick", x.pick(3, 0, 4), 4);
        no("full", x.vote(3, 0, 3));
        due("six", x.node(3, 9), 6);
        due("synced", x.sync(3, 1), 1);
        yes("room", x.vote(3, 0, 3));
        due("all", x.sync(3, 6), 6);
        due("the latest vote", x.node(3, 6), 28);
        due("and of another instance", x.node(3, 7), 21);
        due("ever voted", x.tally(1, 0, 6), 8);
    }

    private static void propose() {
        part = "promise 10";
        BallotDesk x = fastFour();
        for (int v : new int[] {-1, 0, 8}) no("value " + v, x.propose(1, 0, 0, v));
        for (int i : new int[] {-1, 3}) no("instance " + i, x.propose(1, i, 0, 1));
        for (int n : new int[] {-1, 7}) no("node " + n, x.propose(1, 0, n, 1));
        no("ballot 0", x.propose(0, 0, 0, 1));
        no("ballot 3", x.propose(3, 0, 0, 1));
        no("ballot 99", x.propose(99, 0, 0, 1));
        no("nothing picked", x.propose(1, 1, 0, 1));
        yes("propose", x.propose(1, 0, 0, 7));
        due("for itself", x.node(0, 2), 15);
        no("the first counts", x.propose(1, 0, 0, 6));
        yes("another node, another value", x.propose(1, 0, 1, 1));
        yes("ask", x.ask(2, 2));
        no("promised more", x.propose(1, 0, 2, 1));
        yes("down", x.power(3, false));
        no("down", x.propose(1, 0, 3, 1));
        BallotDesk y = three();
        due("begin", y.begin(0, false), 1);
        pickAll(y, 1, 2);
        no("a value was picked", y.propose(1, 0, 0, 2));
    }

    private static void sync() {
        part = "promise 11";
        BallotDesk x = three();
        due("begin", x.begin(0, false), 1);
        due("begin", x.begin(0, false), 2);
        pickAll(x, 1, 2);
        due("nothing", x.sync(0, 6), 0);
        yes("ask", x.ask(1, 0));
        yes("vote", x.vote(1, 1, 0));
        yes("vote", x.vote(1, 0, 0));
        yes("ask", x.ask(2, 0));
        for (int k : new int[] {-1, 7}) due("k " + k, x.sync(0, k), REFUSED);
        for (int n : new int[] {-1, 7}) due("node " + n, x.sync(n, 1), REFUSED);
        due("none asked for", x.sync(0, 0), 0);
        due("queue", x.node(0, 9), 4);
        due("first", x.sync(0, 1), 1);
        due("answered 1", x.ballot(1, 3), 1);
        due("promise for others", x.node(0, 5), 1);
        due("no vote yet", x.node(0, 7), 0);
        due("second", x.sync(0, 1), 1);
        due("vote for others", x.node(0, 7), 10);
        due("the later one not yet", x.node(0, 6), 0);
        due("as many as there are", x.sync(0, 6), 2);
        due("all votes", x.node(0, 6), 10);
        due("promise", x.node(0, 5), 2);
        due("answered 2", x.ballot(2, 3), 1);
        due("empty", x.node(0, 9), 0);
        yes("vote", x.vote(1, 0, 1));
        due("a vote promises when synced", x.sync(1, 1), 1);
        due("promise", x.node(1, 5), 1);
        due("a vote is no answer", x.ballot(1, 3), 1);
        yes("down", x.power(0, false));
        due("down", x.sync(0, 0), REFUSED);
    }

    private static void complete() {
        part = "promise 12";
        BallotDesk x = three();
        no("no ballot", x.complete(1));
        due("begin", x.begin(0, false), 1);
        no("nothing picked", x.complete(1));
        due("pick", x.pick(1, 0, 1), 1);
        due("pick", x.pick(1, 1, 1), 1);
        no("one is not picked", x.complete(1));
        due("not completed", x.ballot(1, 5), 0);
        due("pick", x.pick(1, 2, 1), 1);
        voteSynced(x, 1, 0, 0, 1);
        due("begin", x.begin(0, false), 2);
        yes("free everywhere", x.complete(1));
        due("completed", x.ballot(1, 5), 1);
        no("was completed", x.complete(1));
        no("ballot 0", x.complete(0));
        no("ballot 3", x.complete(3));
        due("base of one begun before", x.ballot(2, 2), 0);
        due("begin", x.begin(0, false), 3);
        due("base", x.ballot(3, 2), 1);
        answer(x, 2, 0, 1);
        due("bound", x.pick(2, 0, 5), 1);
        due("free", x.pick(2, 1, 5), 5);
        due("free", x.pick(2, 2, 5), 5);
        no("chosen in 1, not in 2", x.complete(2));
        voteSynced(x, 2, 0, 0);
        no("one is no WRITE quorum", x.complete(2));
        voteSynced(x, 2, 0, 2);
        yes("chosen in 2", x.complete(2));
        due("begin", x.begin(0, false), 4);
        due("the greatest is the base", x.ballot(4, 2), 2);
        BallotDesk y = fastFour();
        due("any", y.pick(1, 1, 1), 0);
        due("any", y.pick(1, 2, 1), 0);
        yes("any is free", y.complete(1));
        greatestBase();
    }

    private static void greatestBase() {
        BallotDesk x = three();
        for (int b = 1; b <= 2; b++) due("begin", x.begin(0, false), b);
        answer(x, 2, 0, 1);
        pickAll(x, 2, 1);
        yes("the greater one first", x.complete(2));
        pickAll(x, 1, 1);
        yes("the lesser one later", x.complete(1));
        due("begin", x.begin(0, false), 3);
        due("the greatest, not the latest", x.ballot(3, 2), 2);
    }

    private static void hear() {
        part = "promise 13";
        BallotDesk x = three();
        due("begin", x.begin(0, false), 1);
        pickAll(x, 1, 3);
        voteSynced(x, 1, 0, 0, 1, 2);
        voteSynced(x, 1, 1, 0, 1);
        for (int l : new int[] {-1, 2}) due("learner " + l, x.hear(l, 0), REFUSED);
        for (int n : new int[] {-1, 7}) due("node " + n, x.hear(0, n), REFUSED);
        due("one node", x.hear(0, 0), 0);
        due("the same node", x.hear(0, 0), 0);
        due("two nodes", x.hear(0, 2), 1);
        due("three nodes", x.hear(0, 1), 2);
        due("the other learner knows nothing", x.hear(1, 6), 0);
        yes("down", x.power(2, false));
        due("down", x.hear(1, 2), REFUSED);
        due("and nothing is known", x.hear(1, 0), 0);
        yes("vote, not synced", x.vote(1, 2, 0));
        voteSynced(x, 1, 2, 1);
        due("not what is not synced", x.hear(0, 0), 2);
        due("nor with node 1", x.hear(0, 1), 2);
        due("synced", x.sync(0, 6), 1);
        due("not until it is heard again", x.hear(0, 6), 2);
        due("heard again", x.hear(0, 0), 3);
    }

    private static void node() {
        part = "promise 14";
        BallotDesk x = three();
        for (int b = 1; b <= 2; b++) due("begin", x.begin(0, false), b);
        pickAll(x, 1, 7);
        yes("vote", x.vote(1, 0, 4));
        yes("vote", x.vote(1, 2, 4));
        due("sync", x.sync(4, 1), 1);
        yes("ask", x.ask(2, 4));
        int[] want = {1, 2, 15, 0, 15, 1, 15, 0, 0, 2};
        for (int what = 0; what < 10; what++) due("what " + what, x.node(4, what), want[what]);
        yes("down", x.power(4, false));
        int[] down = {0, 1, 15, 0, 0, 1, 15, 0, 0, 0};
        for (int what = 0; what < 10; what++) due("down, what " + what, x.node(4, what), down[what]);
        for (int what : new int[] {-1, 10}) due("what " + what, x.node(4, what), REFUSED);
        for (int n : new int[] {-1, 7}) due("node " + n, x.node(n, 0), REFUSED);
    }

    private static void ballot() {
        part = "promise 15";
        BallotDesk x = new BallotDesk();
        yes("define", x.define(2, COUNT, 7, 2, 2, 3));
        due("begin", x.begin(2, false), 1);
        due("pick", x.pick(1, 1, 4), 4);
        voteSynced(x, 1, 1, 6);
        due("begin", x.begin(2, true), 2);
        int[] first = {2, 0, 0, 0, 1, 0, NONE, 4, NONE, 0, 1, 0};
        for (int what = 0; what < 12; what++) due("first, what " + what, x.ballot(1, what), first[what]);
        answer(x, 2, 6, 0);
        due("one of the three is not enough", x.ballot(2, 4), 0);
        answer(x, 2, 2);
        due("bound", x.pick(2, 1, 1), 4);
        due("any", x.pick(2, 2, 1), 0);
        int[] second = {2, 1, 0, 69, 1, 0, NONE, 4, 0, 0, 0, 1};
        for (int what = 0; what < 12; what++) due("second, what " + what, x.ballot(2, what), second[what]);
        for (int what : new int[] {-1, 12}) due("what " + what, x.ballot(1, what), REFUSED);
        for (int b : new int[] {-1, 0, 3}) due("ballot " + b, x.ballot(b, 0), REFUSED);
    }

    private static void tally() {
        part = "promise 16";
        BallotDesk x = fastFour();
        proposeSynced(x, 1, 0, 7, 0, 6);
        proposeSynced(x, 1, 0, 1, 2);
        due("7", x.tally(1, 0, 7), 65);
        due("1", x.tally(1, 0, 1), 4);
        due("nobody", x.tally(1, 0, 2), 0);
        due("another instance", x.tally(1, 1, 7), 0);
        due("another ballot", x.tally(2, 0, 7), 0);
        answer(x, 2, 0, 1, 2);
        due("pick", x.pick(2, 0, 3), 3);
        voteSynced(x, 2, 0, 0);
        due("ever voted", x.tally(1, 0, 7), 65);
        yes("down", x.power(0, false));
        due("what is synced stays", x.tally(2, 0, 3), 1);
        for (int v : new int[] {-1, 0, 8}) due("value " + v, x.tally(1, 0, v), REFUSED);
        for (int i : new int[] {-1, 3}) due("instance " + i, x.tally(1, i, 1), REFUSED);
        for (int b : new int[] {-1, 0, 3}) due("ballot " + b, x.tally(b, 0, 1), REFUSED);
    }

    private static void chosen() {
        part = "promise 17";
        BallotDesk x = three();
        due("begin", x.begin(0, false), 1);
        pickAll(x, 1, 6);
        voteSynced(x, 1, 0, 0, 3);
        due("one of the three is not enough", x.chosen(0), 0);
        yes("vote", x.vote(1, 0, 2));
        due("not synced", x.chosen(0), 0);
        due("sync", x.sync(2, 1), 1);
        due("chosen", x.chosen(0), 6);
        due("another instance", x.chosen(1), 0);
        for (int i : new int[] {-1, 3}) due("instance " + i, x.chosen(i), REFUSED);
        due("begin", x.begin(0, false), 2);
        voteSynced(x, 1, 1, 0);
        answer(x, 2, 0, 1);
        due("bound", x.pick(2, 1, 4), 6);
        voteSynced(x, 2, 1, 1);
        due("not over two ballots", x.chosen(1), 0);
        chosenInAnotherSystem();
    }

    private static void chosenInAnotherSystem() {
        BallotDesk x = new BallotDesk();
        yes("node 0", x.define(0, COUNT, 1, 1, 1, 0));
        yes("node 1", x.define(1, COUNT, 2, 1, 1, 0));
        due("begin", x.begin(0, false), 1);
        due("begin", x.begin(1, false), 2);
        pickAll(x, 1, 7);
        answer(x, 2, 0);
        pickAll(x, 2, 5);
        voteSynced(x, 2, 0, 0, 3);
        due("no quorum of the SYSTEM of 2", x.chosen(0), 0);
        voteSynced(x, 2, 0, 1);
        due("chosen by the SYSTEM of 2", x.chosen(0), 5);
        due("just there", x.chosen(1), 0);
        voteSynced(x, 2, 1, 1);
        due("another instance", x.chosen(1), 5);
        BallotDesk y = fastFour();
        proposeSynced(y, 1, 0, 7, 0, 1, 3);
        due("7", y.chosen(0), 7);
    }

    private static void possible() {
        part = "promise 18";
        BallotDesk x = three();
        due("begin", x.begin(0, false), 1);
        due("nothing picked", x.possible(0), 0);
        due("pick", x.pick(1, 0, 7), 7);
        due("7", x.possible(0), 128);
        due("another instance", x.possible(1), 0);
        yes("down", x.power(0, false));
        yes("down", x.power(1, false));
        due("up or down", x.possible(0), 128);
        yes("up", x.power(0, true));
        yes("up", x.power(1, true));
        due("begin", x.begin(0, false), 2);
        yes("ask", x.ask(2, 0));
        yes("ask", x.ask(2, 1));
        due("not synced", x.possible(0), 128);
        due("sync", x.sync(0, 1), 1);
        due("two are left", x.possible(0), 128);
        due("sync", x.sync(1, 1), 1);
        due("one is left", x.possible(0), 0);
        due("pick", x.pick(2, 0, 2), 2);
        due("2", x.possible(0), 4);
        voteSynced(x, 2, 0, 0, 1);
        due("chosen is possible", x.possible(0), 4);
        for (int i : new int[] {-1, 3}) due("instance " + i, x.possible(i), REFUSED);
        BallotDesk y = fastFour();
        due("any", y.possible(0), 254);
        proposeSynced(y, 1, 0, 3, 0);
        due("any, one is gone", y.possible(0), 254);
        proposeSynced(y, 1, 0, 4, 1);
        due("3 or 4", y.possible(0), 24);
        BallotDesk z = fastFour();
        due("begin", z.begin(0, false), 3);
        answer(z, 2, 1, 2, 3);
        due("pick", z.pick(2, 0, 5), 5);
        due("5 in ballot 2, nothing in 1", z.possible(0), 32);
        due("just what a ballot picked", z.pick(3, 0, 5), REFUSED);
    }

    private static void learned() {
        part = "promise 19";
        BallotDesk x = fastFour();
        proposeSynced(x, 1, 0, 6, 0, 1, 2);
        due("hear", x.hear(0, 0), 0);
        due("hear", x.hear(0, 1), 0);
        due("chosen, not learned", x.learned(0, 0), 0);
        answer(x, 2, 0, 1, 2);
        due("pick", x.pick(2, 0, 1), 6);
        voteSynced(x, 2, 0, 0);
        due("a later vote does not undo what it knows", x.hear(0, 0), 0);
        due("three in ballot 1", x.hear(0, 2), 1);
        due("learned", x.learned(0, 0), 6);
        due("another instance", x.learned(0, 1), 0);
        due("another learner", x.learned(1, 0), 0);
        due("just the latest vote is heard", x.hear(1, 0), 0);
        due("hear", x.hear(1, 1), 0);
        due("two in ballot 1 and one in 2", x.hear(1, 2), 0);
        due("not over two ballots", x.learned(1, 0), 0);
        for (int l : new int[] {-1, 2}) due("learner " + l, x.learned(l, 0), REFUSED);
        for (int i : new int[] {-1, 3}) due("instance " + i, x.learned(0, i), REFUSED);
    }

    private static void common() {
        part = "promise 20";
        BallotDesk x = new BallotDesk();
        yes("5 and 3 of 7", x.define(0, COUNT, 127, 5, 3, 0));
        yes("grid", x.define(1, GRID, 2, 3, 0, 1));
        yes("all", x.define(2, COUNT, 127, 7, 1, 0));
        due("5 and 5 of 7", x.common(0, READ, 0, READ), 3);
        due("5 and 3 of 7", x.common(0, READ, 0, WRITE), 1);
        due("3 and 3 of 7", x.common(0, WRITE, 0, WRITE), 0);
        due("rows", x.common(1, READ, 1, READ), 0);
        due("row and two columns", x.common(1, READ, 1, FAST), 2);
        due("two columns each", x.common(1, FAST, 1, FAST), 2);
        due("5 of 7 and a row", x.common(0, READ, 1, READ), 1);
        due("a row and 5 of 7", x.common(1, READ, 0, READ), 1);
        due("5 of 7 and two columns", x.common(0, READ, 1, FAST), 2);
        due("all and 5", x.common(2, READ, 0, READ), 5);
        due("no FAST", x.common(0, FAST, 1, READ), NONE);
        due("no FAST", x.common(1, READ, 0, FAST), NONE);
        due("system 3", x.common(3, READ, 0, READ), REFUSED);
        due("other system 3", x.common(0, READ, 3, READ), REFUSED);
        for (int bad : new int[] {-1, 4}) {
            due("system " + bad, x.common(bad, READ, 0, READ), REFUSED);
            due("other system " + bad, x.common(0, READ, bad, READ), REFUSED);
        }
        for (int bad : new int[] {-1, 3}) {
            due("kind " + bad, x.common(0, bad, 0, READ), REFUSED);
            due("other kind " + bad, x.common(0, READ, 0, bad), REFUSED);
            due("other kind, without quorums " + bad, x.common(0, FAST, 0, bad), REFUSED);
        }
    }

    private static void answers() {
        part = "promise 21";
        BallotDesk x = new BallotDesk();
        yes("2 of {0, 1, 2}", x.define(0, COUNT, 7, 2, 2, 0));
        yes("2 of {2, 3, 4}", x.define(1, COUNT, 28, 2, 2, 0));
        due("no ballot", x.answers(1), REFUSED);
        due("begin", x.begin(0, false), 1);
        due("nothing before it", x.answers(1), 0);
        due("begin", x.begin(1, false), 2);
        due("begin", x.begin(0, false), 3);
        due("begin", x.begin(0, false), 4);
        due("of 1", x.answers(2), 2);
        due("of 1 and 2: node 2 is in both", x.answers(3), 3);
        answer(x, 3, 2);
        due("one of each", x.answers(3), 2);
        yes("ask", x.ask(4, 0));
        due("not synced", x.answers(3), 2);
        due("sync", x.sync(0, 1), 1);
        due("node 1 is left", x.answers(3), 2);
        yes("down", x.power(1, false));
        due("up or down", x.answers(3), 2);
        due("nodes 0 and 2 have promised more", x.answers(2), NONE);
        yes("up", x.power(1, true));
        answer(x, 3, 1);
        due("one more", x.answers(3), 1);
        answer(x, 3, 4);
        due("ready", x.answers(3), 0);
        answer(x, 4, 1, 2, 3);
        due("ready stays", x.answers(3), 0);
        for (int b : new int[] {-1, 0, 5}) due("ballot " + b, x.answers(b), REFUSED);
        answersByPromises();
        answersFromBaseOn();
    }

    private static void answersByPromises() {
        BallotDesk x = three();
        due("begin", x.begin(0, false), 1);
        due("begin", x.begin(0, false), 2);
        due("begin", x.begin(0, false), 3);
        yes("ask", x.ask(3, 0));
        yes("ask", x.ask(3, 1));
        due("promises that are not synced do not count", x.answers(2), 2);
        due("sync", x.sync(0, 1), 1);
        due("nodes 1 and 2 are left", x.answers(2), 2);
        due("sync", x.sync(1, 1), 1);
        due("node 2 is left", x.answers(2), NONE);
        due("pick", x.pick(3, 0, 1), 1);
        due("begin", x.begin(0, false), 4);
        voteSynced(x, 3, 0, 2);
        due("a vote promises, too", x.answers(2), NONE);
        due("promise 3 is below 4", x.answers(4), 2);
    }

    private static void answersFromBaseOn() {
        BallotDesk x = new BallotDesk();
        yes("node 0", x.define(0, COUNT, 1, 1, 1, 0));
        yes("nodes 1 to 3", x.define(1, COUNT, 14, 3, 1, 0));
        due("begin", x.begin(0, false), 1);
        due("begin", x.begin(1, false), 2);
        answer(x, 2, 0);
        pickAll(x, 2, 1);
        yes("complete", x.complete(2));
        due("begin", x.begin(0, false), 3);
        due("just of the base", x.answers(3), 3);
        answer(x, 3, 1, 2, 3);
        due("ready without node 0", x.ballot(3, 4), 1);
    }

    private static void votes() {
        part = "promise 22";
        BallotDesk x = three();
        due("no ballot", x.votes(1, 0, 1), REFUSED);
        due("begin", x.begin(0, false), 1);
        due("nothing picked", x.votes(1, 0, 1), NONE);
        pickAll(x, 1, 5);
        due("another value", x.votes(1, 0, 4), NONE);
        due("two", x.votes(1, 0, 5), 2);
        voteSynced(x, 1, 0, 0);
        due("one", x.votes(1, 0, 5), 1);
        yes("vote", x.vote(1, 0, 1));
        due("not synced", x.votes(1, 0, 5), 1);
        due("begin", x.begin(0, false), 2);
        answer(x, 2, 2);
        due("node 1 may", x.votes(1, 0, 5), 1);
        yes("down", x.power(1, false));
        due("up or down", x.votes(1, 0, 5), 1);
        yes("up", x.power(1, true));
        answer(x, 2, 1);
        due("all that may would not do", x.votes(1, 0, 5), NONE);
        answer(x, 2, 0);
        due("bound", x.pick(2, 0, 1), 5);
        voteSynced(x, 2, 0, 0, 1);
        due("chosen", x.votes(2, 0, 5), 0);
        for (int v : new int[] {-1, 0, 8}) due("value " + v, x.votes(1, 0, v), REFUSED);
        for (int i : new int[] {-1, 3}) due("instance " + i, x.votes(1, i, 1), REFUSED);
        for (int b : new int[] {-1, 0, 3}) due("ballot " + b, x.votes(b, 0, 1), REFUSED);
        BallotDesk y = fastFour();
        due("any value", y.votes(1, 0, 7), 3);
        proposeSynced(y, 1, 0, 7, 0);
        due("7", y.votes(1, 0, 7), 2);
        due("another", y.votes(1, 0, 6), 3);
        proposeSynced(y, 1, 0, 6, 1);
        due("a third one is lost", y.votes(1, 0, 5), NONE);
    }

    private static void drive() {
        part = "promise 23";
        BallotDesk x = new BallotDesk();
        yes("node 0 and 1 read, node 1 writes", x.define(0, LISTS, 3, 2, 0, 0));
        due("no ballot", x.drive(1, 1, 1), REFUSED);
        due("begin", x.begin(0, false), 1);
        for (int v : new int[] {-1, 0, 8}) due("value " + v, x.drive(1, v, 1), REFUSED);
        for (int n : new int[] {-1, 61}) due("times " + n, x.drive(1, 1, n), REFUSED);
        for (int b : new int[] {-1, 0, 2}) due("ballot " + b, x.drive(b, 1, 1), REFUSED);
        due("0 times", x.drive(1, 1, 0), 0);
        due("nothing done", x.ballot(1, 6), NONE);
        due("the first pick", x.drive(1, 1, 1), 1);
        due("instance 0", x.ballot(1, 6), 1);
        due("not yet instance 1", x.ballot(1, 7), NONE);
        due("the others, with other values", x.drive(1, 2, 2), 2);
        due("instance 2", x.ballot(1, 8), 2);
        due("a vote", x.drive(1, 3, 1), 1);
        due("of node 0, for what was picked", x.node(0, 2), 9);
        due("in the queue", x.node(0, 9), 1);
        due("a sync", x.drive(1, 3, 1), 1);
        due("synced", x.node(0, 6), 9);
        for (int n = 2; n < 7; n++) yes("down", x.power(n, false));
        due("five votes and syncs, and completed", x.drive(1, 3, 60), 11);
        due("completed", x.ballot(1, 5), 1);
        due("nothing is left", x.drive(1, 3, 60), 0);
        due("begin", x.begin(0, false), 2);
        due("ask", x.drive(2, 7, 1), 1);
        due("node 0", x.node(0, 1), 2);
        yes("ask node 1 by hand", x.ask(2, 1));
        due("syncs go first", x.drive(2, 7, 2), 2);
        due("ready", x.ballot(2, 4), 1);
        due("picks", x.drive(2, 7, 3), 3);
        due("bound", x.ballot(2, 6), 1);
        due("bound votes have to be cast", x.drive(2, 7, 60), 13);
        due("completed", x.ballot(2, 5), 1);
        driveStops();
        driveAny();
    }

    private static void driveStops() {
        BallotDesk x = three();
        due("begin", x.begin(0, false), 1);
        due("begin", x.begin(0, false), 2);
        yes("down", x.power(0, false));
        yes("down", x.power(1, false));
        due("five asked, five synced, not ready", x.drive(2, 1, 60), 10);
        due("answered", x.ballot(2, 3), 124);
        yes("up", x.power(1, true));
        due("asked and synced", x.drive(2, 1, 2), 2);
        due("ready: node 0 is not asked", x.ballot(2, 4), 1);
        yes("up", x.power(0, true));
        due("a pick", x.drive(2, 4, 1), 1);
        due("picked", x.ballot(2, 6), 4);
        due("node 0 was not asked", x.node(0, 1), 0);
        yes("ask in another ballot", x.ask(1, 0));
        yes("down, with a queue that is lost", x.power(0, false));
        due("two picks, 18 votes with their syncs, completed", x.drive(2, 4, 60), 39);
        due("tally", x.tally(2, 2, 4), 126);
    }

    private static void driveAny() {
        BallotDesk x = three();
        due("fast", x.begin(0, true), 1);
        due("three picks", x.drive(1, 6, 3), 3);
        due("any", x.ballot(1, 8), 0);
        due("vote and sync", x.drive(1, 6, 2), 2);
        due("another value", x.drive(1, 5, 2), 2);
        due("node 0", x.node(0, 6), 14);
        due("node 1", x.node(1, 6), 13);
        due("node 2 not yet", x.node(2, 6), 0);
    }

    private static void orderAndLimits() {
        part = "promise 24";
        BallotDesk x = three();
        yes("without FAST", x.define(1, COUNT, 7, 2, 2, 0));
        for (int b = 1; b <= 12; b++) due("begin", x.begin(0, b == 1), b);
        due("no such SYSTEM goes first", x.begin(2, false), REFUSED);
        due("no FAST quorum goes first", x.begin(1, true), REFUSED);
        due("then FULL", x.begin(1, false), FULL);
        due("any", x.pick(1, 0, 1), 0);
        proposeSynced(x, 1, 0, 3, 0, 1);
        due("a WRITE quorum does not choose", x.chosen(0), 0);
        due("one more for a FAST one", x.votes(1, 0, 3), 1);
        due("hear", x.hear(0, 0), 0);
        due("nor is it learned", x.hear(0, 1), 0);
        due("3 is possible", x.possible(0), 8);
        answer(x, 2, 2);
        due("a WRITE quorum is not enough to be possible", x.possible(0), 0);
        due("nor to be chosen", x.votes(1, 0, 3), NONE);
        fastIsNotWrite();
        instanceGoesBeforeNode();
    }

    /** Here FAST quorums, {0, 1}, are no WRITE ones, {0, 1, 2}. */
    private static void fastIsNotWrite() {
        BallotDesk x = new BallotDesk();
        yes("define", x.define(0, LISTS, 1, 7, 3, 0));
        due("fast", x.begin(0, true), 1);
        due("any", x.pick(1, 0, 1), 0);
        due("begin", x.begin(0, true), 2);
        proposeSynced(x, 1, 0, 4, 0);
        due("one more", x.votes(1, 0, 4), 1);
        proposeSynced(x, 1, 0, 4, 1);
        due("chosen by FAST", x.chosen(0), 4);
        answer(x, 2, 0);
        due("bound", x.pick(2, 0, 1), 4);
        voteSynced(x, 2, 0, 0, 1);
        due("in 2 a WRITE quorum is needed, also as it is fast", x.votes(2, 0, 4), 1);
        due("so it is not learned", x.hear(1, 0), 0);
        due("not by FAST", x.hear(1, 1), 0);
        voteSynced(x, 2, 0, 2);
        due("but by WRITE", x.hear(1, 2), 1);
    }

    private static void instanceGoesBeforeNode() {
        BallotDesk x = three();
        due("begin", x.begin(0, false), 1);
        due("picks", x.drive(1, 2, 3), 3);
        voteSynced(x, 1, 0, 0, 1, 2);
        due("vote", x.drive(1, 2, 1), 1);
        due("node 3 for instance 0", x.node(3, 2), 10);
        due("not node 0 for instance 1", x.node(0, 3), 0);
        due("the others for instance 0", x.drive(1, 2, 7), 7);
        due("then node 0", x.drive(1, 2, 1), 1);
        due("for instance 1", x.node(0, 3), 10);
    }

    /** Wrong inputs far from the ranges are answered like those next to them, and nothing is thrown. */
    private static void farOutside() {
        part = "far outside";
        BallotDesk x = three();
        due("begin", x.begin(0, true), 1);
        due("any", x.pick(1, 0, 1), 0);
        for (int bad : new int[] {Integer.MIN_VALUE, -1000, 1000, 65536, Integer.MAX_VALUE}) {
            no("define", x.define(bad, COUNT, 1, 1, 1, 1) || x.define(1, bad, 1, 1, 1, 1));
            no("define", x.define(1, COUNT, bad, 1, 1, 1) || x.define(1, GRID, bad, bad, 1, 1));
            no("define", x.define(1, WEIGHTS, 1, bad, 1, 1) || x.define(1, WEIGHTS, 1, 1, bad, 1));
            due("quorum", x.quorum(bad, 0, 1) & x.quorum(0, bad, 1) & x.quorum(0, 0, bad), REFUSED);
            due("system", x.system(bad, 0, 1) & x.system(0, bad, 1) & x.system(0, 0, bad), REFUSED);
            due("common", x.common(bad, 0, 0, 0) & x.common(0, bad, 0, 0) & x.common(0, 0, bad, 0), REFUSED);
            due("common", x.common(0, 0, 0, bad), REFUSED);
            due("begin", x.begin(bad, true), REFUSED);
            no("power", x.power(bad, true) || x.power(bad, false));
            no("ask", x.ask(bad, 0) || x.ask(1, bad));
            due("pick", x.pick(bad, 0, 1) & x.pick(1, bad, 1) & x.pick(1, 1, bad), REFUSED);
            no("vote", x.vote(bad, 0, 0) || x.vote(1, bad, 0) || x.vote(1, 0, bad));
            no("propose", x.propose(bad, 0, 0, 1) || x.propose(1, bad, 0, 1));
            no("propose", x.propose(1, 0, bad, 1) || x.propose(1, 0, 0, bad));
            due("sync", x.sync(bad, 1) & x.sync(0, bad), REFUSED);
            no("complete", x.complete(bad));
            due("hear", x.hear(bad, 0) & x.hear(0, bad), REFUSED);
            due("node", x.node(bad, 0) & x.node(0, bad), REFUSED);
            due("ballot", x.ballot(bad, 0) & x.ballot(1, bad), REFUSED);
            due("tally", x.tally(bad, 0, 1) & x.tally(1, bad, 1) & x.tally(1, 0, bad), REFUSED);
            due("chosen", x.chosen(bad), REFUSED);
            due("possible", x.possible(bad), REFUSED);
            due("learned", x.learned(bad, 0) & x.learned(0, bad), REFUSED);
            due("answers", x.answers(bad), REFUSED);
            due("votes", x.votes(bad, 0, 1) & x.votes(1, bad, 1) & x.votes(1, 0, bad), REFUSED);
            due("drive", x.drive(bad, 1, 1) & x.drive(1, bad, 1) & x.drive(1, 1, bad), REFUSED);
        }
        due("nothing has changed", x.ballot(1, 7), NONE);
        due("nothing has been written", x.node(0, 9), 0);
    }
}
