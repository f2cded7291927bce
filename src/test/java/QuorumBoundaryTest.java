/** The boundary cases that "Terms" names for SYSTEMS of quorums, and promises 2 to 4 and 20: a test for each sentence. */
public final class QuorumBoundaryTest extends Checks {
    private static final int MOST_LIST = 268435455;

    public static void main(String[] args) {
        sentence("Terms: a SYSTEM 0..3", QuorumBoundaryTest::systems);
        sentence("Terms: a sort 0..3", QuorumBoundaryTest::sorts);
        sentence("Terms: COUNT: a is a set (1..127)", QuorumBoundaryTest::countSet);
        sentence("Terms: COUNT: READ quorums have at least b of its nodes (1..7)", QuorumBoundaryTest::countRead);
        sentence("Terms: COUNT: WRITE ones c (1..7)", QuorumBoundaryTest::countWrite);
        sentence("Terms: COUNT: FAST ones d (0..7)", QuorumBoundaryTest::countFast);
        sentence("Terms: GRID: a rows and b columns (1..7, a b at most 7)", QuorumBoundaryTest::gridSides);
        sentence("Terms: GRID: c is not looked at", QuorumBoundaryTest::gridIgnores);
        sentence("Terms: GRID: node b i + j is in row i and column j", QuorumBoundaryTest::gridPlaces);
        sentence("Terms: GRID: FAST ones all of all columns but one", QuorumBoundaryTest::gridFast);
        sentence("Terms: WEIGHTS: a (0..9999999)", QuorumBoundaryTest::weights);
        sentence("Terms: WEIGHTS: the last digit for node 0", QuorumBoundaryTest::weightDigits);
        sentence("Terms: WEIGHTS: READ quorums weigh at least b (1..63)", QuorumBoundaryTest::weightsRead);
        sentence("Terms: WEIGHTS: WRITE ones c (1..63)", QuorumBoundaryTest::weightsWrite);
        sentence("Terms: WEIGHTS: FAST ones d (0..63)", QuorumBoundaryTest::weightsFast);
        sentence("Terms: LISTS: a, b, c (0..268435455)", QuorumBoundaryTest::lists);
        sentence("Terms: LISTS: d is not looked at", QuorumBoundaryTest::listsIgnore);
        sentence("Terms: LISTS: four sets each, 128 * 128 * 128 times the last one", QuorumBoundaryTest::listPlaces);
        sentence("Terms: LISTS: one of those that is not 0", QuorumBoundaryTest::listZeros);
        sentence("Terms: if d (in LISTS c) is 0 there are no FAST ones", QuorumBoundaryTest::noFast);
        sentence("Terms: each set that contains a quorum is one, too", QuorumBoundaryTest::supersets);
        sentence("Terms: SOUND if there are READ and WRITE quorums", QuorumBoundaryTest::soundExists);
        sentence("Terms: SOUND: any READ and any WRITE one have a node in common", QuorumBoundaryTest::soundWrite);
        sentence("Terms: SOUND: any READ and any two FAST ones, the same", QuorumBoundaryTest::soundSameFast);
        sentence("Terms: SOUND: any READ and any two FAST ones, not the same", QuorumBoundaryTest::soundTwoFast);
        sentence("Promise 2: SYSTEM s is this from now on", QuorumBoundaryTest::definedAgain);
        sentence("Promise 2: false, and nothing changes, if a number is out of its range", QuorumBoundaryTest::refusedRange);
        sentence("Promise 2: false, and nothing changes, if it is not SOUND", QuorumBoundaryTest::refusedUnsound);
        sentence("Promise 2: false, and nothing changes, if a ballot has SYSTEM s", QuorumBoundaryTest::refusedBallot);
        sentence("Promise 3: a set (0..127)", QuorumBoundaryTest::quorumSets);
        sentence("Promise 3: REFUSED if there is no such SYSTEM, kind or set", QuorumBoundaryTest::quorumRefused);
        sentence("Promise 4: 0: the least number of nodes that one has", QuorumBoundaryTest::systemLeast);
        sentence("Promise 4: 1: the greatest number such that the others are a quorum", QuorumBoundaryTest::systemLosses);
        sentence("Promise 4: 2: quorums, but not without any one of their nodes", QuorumBoundaryTest::systemTight);
        sentence("Promise 4: NONE for 0 and 1 without quorums", QuorumBoundaryTest::systemNone);
        sentence("Promise 4: REFUSED if there is no such SYSTEM, kind or what", QuorumBoundaryTest::systemRefused);
        sentence("Promise 20: of all pairs the least number of nodes that both have", QuorumBoundaryTest::commonEdges);
        sentence("Promise 20: NONE if s or t has none of its kind", QuorumBoundaryTest::commonNone);
        sentence("Promise 20: REFUSED if there is no such SYSTEM or kind", QuorumBoundaryTest::commonRefused);
        end();
    }

    private static void systems() {
        BallotDesk x = new BallotDesk();
        for (int s = 0; s < 4; s++) {
            due("not defined yet " + s, x.quorum(s, READ, 127), REFUSED);
            yes("define " + s, x.define(s, COUNT, 127, s + 1, 7, 0));
        }
        for (int s = 0; s < 4; s++) due("each has its own quorums " + s, x.system(s, READ, 0), s + 1);
        for (int s : outside(0, 3)) {
            no("define " + s, x.define(s, COUNT, 127, 7, 7, 0));
            due("quorum " + s, x.quorum(s, READ, 127), REFUSED);
            due("system " + s, x.system(s, READ, 0), REFUSED);
            due("begin " + s, x.begin(s, false), REFUSED);
            due("common " + s, x.common(s, READ, 0, READ), REFUSED);
            due("common with " + s, x.common(0, READ, s, READ), REFUSED);
        }
        for (int s = 0; s < 4; s++) due("as they were " + s, x.system(s, READ, 0), s + 1);
    }

    private static void sorts() {
        // These numbers are in range, and SOUND, for each of the sorts.
        BallotDesk x = new BallotDesk();
        for (int sort = 0; sort < 4; sort++) yes("sort " + sort, x.define(sort, sort, 1, 1, 1, 0));
        for (int sort : outside(0, 3)) no("sort " + sort, x.define(0, sort, 1, 1, 1, 0));
    }

    private static void countSet() {
        BallotDesk x = new BallotDesk();
        yes("node 0 alone", x.define(0, COUNT, 1, 1, 1, 0));
        yes("node 6 alone", x.define(1, COUNT, 64, 1, 1, 0));
        yes("all", x.define(2, COUNT, 127, 1, 7, 0));
        due("node 0 of 1", x.quorum(0, READ, 1), 1);
        due("the others are no quorum of 1", x.quorum(0, READ, 126), 0);
        due("node 6 of 64", x.quorum(1, READ, 64), 1);
        due("the others are no quorum of 64", x.quorum(1, READ, 63), 0);
        due("node 6 of 127", x.quorum(2, READ, 64), 1);
        for (int a : outside(1, 127)) no("a " + a, x.define(3, COUNT, a, 1, 1, 0));
        no("127 and more bits", x.define(3, COUNT, 255, 4, 4, 0));
        due("none of them was taken", x.quorum(3, READ, 127), REFUSED);
    }

    private static void countRead() {
        BallotDesk x = new BallotDesk();
        yes("b 1", x.define(0, COUNT, 127, 1, 7, 0));
        due("one node", x.quorum(0, READ, 8), 1);
        due("no node", x.quorum(0, READ, 0), 0);
        yes("b 7", x.define(1, COUNT, 127, 7, 1, 0));
        due("seven nodes", x.quorum(1, READ, 127), 1);
        due("six nodes", x.quorum(1, READ, 126), 0);
        for (int b : outside(1, 7)) no("b " + b, x.define(2, COUNT, 127, b, 7, 0));
        due("none of them was taken", x.quorum(2, READ, 127), REFUSED);
    }

    private static void countWrite() {
        BallotDesk x = new BallotDesk();
        yes("c 1", x.define(0, COUNT, 127, 7, 1, 0));
        due("one node", x.quorum(0, WRITE, 8), 1);
        due("no node", x.quorum(0, WRITE, 0), 0);
        yes("c 7", x.define(1, COUNT, 127, 1, 7, 0));
        due("seven nodes", x.quorum(1, WRITE, 127), 1);
        due("six nodes", x.quorum(1, WRITE, 63), 0);
        for (int c : outside(1, 7)) no("c " + c, x.define(2, COUNT, 127, 7, c, 0));
        due("none of them was taken", x.quorum(2, READ, 127), REFUSED);
    }

    private static void countFast() {
        BallotDesk x = new BallotDesk();
        yes("d 0", x.define(0, COUNT, 127, 7, 7, 0));
        due("none", x.quorum(0, FAST, 127), 0);
        yes("d 1", x.define(1, COUNT, 1, 1, 1, 1));
        due("one node", x.quorum(1, FAST, 1), 1);
        due("no node", x.quorum(1, FAST, 0), 0);
        yes("d 7", x.define(2, COUNT, 127, 1, 7, 7));
        due("seven nodes", x.quorum(2, FAST, 127), 1);
        due("six nodes", x.quorum(2, FAST, 95), 0);
        yes("d 7 of three nodes", x.define(2, COUNT, 7, 2, 2, 7));
        due("is in range, but there is none", x.quorum(2, FAST, 127), 0);
        for (int d : outside(0, 7)) no("d " + d, x.define(3, COUNT, 127, 7, 7, d));
        due("none of them was taken", x.quorum(3, READ, 127), REFUSED);
    }

    private static void gridSides() {
        BallotDesk x = new BallotDesk();
        for (int a = -3; a <= 9; a++) {
            for (int b = -3; b <= 9; b++) {
                boolean fits = a >= 1 && a <= 7 && b >= 1 && b <= 7 && a * b <= 7;
                due(a + " by " + b, x.define(0, GRID, a, b, 0, 0), fits);
            }
        }
        for (int far : FAR) {
            no(far + " by 1", x.define(0, GRID, far, 1, 0, 0));
            no("1 by " + far, x.define(0, GRID, 1, far, 0, 0));
            no(far + " squared, which may wrap around", x.define(0, GRID, far, far, 0, 0));
        }
        no("a product that wraps around to 2", x.define(0, GRID, 3, 1431655766, 0, 0));
    }

    private static void gridIgnores() {
        BallotDesk x = new BallotDesk();
        for (int far : FAR) yes("c " + far, x.define(0, GRID, 2, 3, far, 0));
        yes("c 0", x.define(0, GRID, 2, 3, 0, 0));
        yes("c 8", x.define(0, GRID, 2, 3, 8, 0));
        due("WRITE is by columns", x.system(0, WRITE, 0), 2);
        due("d 0", x.system(0, FAST, 0), NONE);
    }

    private static void gridPlaces() {
        BallotDesk x = new BallotDesk();
        yes("1 by 7", x.define(0, GRID, 1, 7, 0, 0));
        due("its row is all nodes", x.quorum(0, READ, 127), 1);
        due("not without node 6", x.quorum(0, READ, 63), 0);
        due("node 6 is a column", x.quorum(0, WRITE, 64), 1);
        due("node 0 is a column", x.quorum(0, WRITE, 1), 1);
        yes("7 by 1", x.define(1, GRID, 7, 1, 0, 0));
        due("node 6 is a row", x.quorum(1, READ, 64), 1);
        due("node 0 is a row", x.quorum(1, READ, 1), 1);
        due("its column is all nodes", x.quorum(1, WRITE, 127), 1);
        due("not without node 0", x.quorum(1, WRITE, 126), 0);
        yes("3 by 2", x.define(2, GRID, 3, 2, 0, 0));
        for (int row = 0; row < 3; row++) due("row " + row, x.quorum(2, READ, 3 << 2 * row), 1);
        due("the end of a row and the next one", x.quorum(2, READ, 0b000110), 0);
        due("column 0", x.quorum(2, WRITE, 0b010101), 1);
        due("column 1", x.quorum(2, WRITE, 0b101010), 1);
        due("not the last row", x.quorum(2, WRITE, 0b1001111), 0);
        due("node 6 is in no row", x.quorum(2, READ, 0b1010101), 0);
        due("nor in a column", x.quorum(2, WRITE, 0b1001010), 0);
        due("no node", x.quorum(2, READ, 0), 0);
        due("no node", x.quorum(2, WRITE, 0), 0);
    }

    private static void gridFast() {
        BallotDesk x = new BallotDesk();
        yes("1 by 7", x.define(0, GRID, 1, 7, 0, 1));
        for (int j = 0; j < 7; j++) due("but column " + j, x.quorum(0, FAST, 127 & ~(1 << j)), 1);
        due("but two columns", x.quorum(0, FAST, 31), 0);
        yes("2 by 3", x.define(1, GRID, 2, 3, 0, 1));
        due("but column 0", x.quorum(1, FAST, 0b110110), 1);
        due("but column 1", x.quorum(1, FAST, 0b101101), 1);
        due("but column 2", x.quorum(1, FAST, 0b011011), 1);
        due("a column that is not whole", x.quorum(1, FAST, 0b1101001), 0);
        for (int far : FAR) yes("d has no range: " + far, x.define(2, GRID, 1, 3, 0, far));
        due("and any but 0 gives FAST ones", x.system(2, FAST, 0), 2);
        no("all columns but the only one are no node at all", x.define(3, GRID, 1, 1, 0, 1));
        no("nor with 7 rows", x.define(3, GRID, 7, 1, 0, 1));
        no("one of two columns beside the other", x.define(3, GRID, 1, 2, 0, 1));
        yes("without FAST ones it may be", x.define(3, GRID, 1, 1, 0, 0));
    }

    private static void weights() {
        BallotDesk x = new BallotDesk();
        no("0 is in range, but there are no quorums", x.define(0, WEIGHTS, 0, 1, 1, 0));
        yes("1", x.define(0, WEIGHTS, 1, 1, 1, 1));
        yes("9999999", x.define(1, WEIGHTS, 9999999, 32, 32, 0));
        due("four weigh 36", x.system(1, READ, 0), 4);
        for (int a : outside(0, 9999999)) no("a " + a, x.define(2, WEIGHTS, a, 1, 1, 0));
        no("an eighth digit", x.define(2, WEIGHTS, 10000001, 1, 1, 0));
        no("an eighth digit, before nines", x.define(2, WEIGHTS, 19999999, 32, 32, 0));
        no("negative", x.define(2, WEIGHTS, -9999999, 32, 32, 0));
        due("none of them was taken", x.quorum(2, READ, 127), REFUSED);
    }

    private static void weightDigits() {
        BallotDesk x = new BallotDesk();
        yes("node 0 weighs 9, node 6 weighs 8", x.define(0, WEIGHTS, 8000009, 9, 9, 0));
        due("node 0", x.quorum(0, READ, 1), 1);
        due("node 6 and those that weigh nothing", x.quorum(0, READ, 126), 0);
        yes("node 6 weighs 9, node 0 weighs 8", x.define(0, WEIGHTS, 9000008, 9, 9, 0));
        due("node 6", x.quorum(0, READ, 64), 1);
        due("node 0 and those that weigh nothing", x.quorum(0, READ, 63), 0);
        yes("each its own", x.define(1, WEIGHTS, 7654321, 1, 28, 0));
        for (int n = 0; n < 7; n++) due("all weigh 28, none may miss", x.quorum(1, WRITE, 127 & ~(1 << n)), 0);
    }

    private static void weightsRead() {
        BallotDesk x = new BallotDesk();
        yes("b 1", x.define(0, WEIGHTS, 9999999, 1, 63, 0));
        due("one node", x.quorum(0, READ, 1), 1);
        due("no node", x.quorum(0, READ, 0), 0);
        yes("b 63", x.define(0, WEIGHTS, 9999999, 63, 1, 0));
        due("all", x.quorum(0, READ, 127), 1);
        due("54", x.quorum(0, READ, 126), 0);
        yes("b 54", x.define(0, WEIGHTS, 9999999, 54, 10, 0));
        due("54 is enough", x.quorum(0, READ, 126), 1);
        for (int b : outside(1, 63)) no("b " + b, x.define(1, WEIGHTS, 9999999, b, 63, 0));
        due("none of them was taken", x.quorum(1, READ, 127), REFUSED);
    }

    private static void weightsWrite() {
        BallotDesk x = new BallotDesk();
        yes("c 1", x.define(0, WEIGHTS, 9999999, 63, 1, 0));
        due("one node", x.quorum(0, WRITE, 64), 1);
        due("no node", x.quorum(0, WRITE, 0), 0);
        yes("c 63", x.define(0, WEIGHTS, 9999999, 1, 63, 0));
        due("all", x.quorum(0, WRITE, 127), 1);
        due("54", x.quorum(0, WRITE, 63), 0);
        for (int c : outside(1, 63)) no("c " + c, x.define(1, WEIGHTS, 9999999, 63, c, 0));
        due("none of them was taken", x.quorum(1, READ, 127), REFUSED);
    }

    private static void weightsFast() {
        BallotDesk x = new BallotDesk();
        yes("d 0", x.define(0, WEIGHTS, 9999999, 32, 32, 0));
        due("none", x.quorum(0, FAST, 127), 0);
        yes("d 1", x.define(0, WEIGHTS, 1, 1, 1, 1));
        due("node 0", x.quorum(0, FAST, 1), 1);
        due("the others weigh nothing", x.quorum(0, FAST, 126), 0);
        yes("d 63", x.define(0, WEIGHTS, 9999999, 32, 32, 63));
        due("all", x.quorum(0, FAST, 127), 1);
        due("54", x.quorum(0, FAST, 63), 0);
        yes("d 63, more than all weigh", x.define(0, WEIGHTS, 9999998, 32, 32, 63));
        due("is in range, but there is none", x.quorum(0, FAST, 127), 0);
        for (int d : outside(0, 63)) no("d " + d, x.define(1, WEIGHTS, 9999999, 32, 32, d));
        due("none of them was taken", x.quorum(1, READ, 127), REFUSED);
    }

    private static void lists() {
        BallotDesk x = new BallotDesk();
        yes("greatest", x.define(0, LISTS, MOST_LIST, MOST_LIST, MOST_LIST, 0));
        due("all nodes", x.quorum(0, READ, 127), 1);
        due("not all", x.quorum(0, READ, 126), 0);
        yes("c 0", x.define(0, LISTS, 1, 1, 0, 0));
        no("a 0 is in range, but there is no READ one", x.define(1, LISTS, 0, 1, 0, 0));
        no("b 0 is in range, but there is no WRITE one", x.define(1, LISTS, 1, 0, 0, 0));
        for (int bad : outside(0, MOST_LIST)) {
            no("a " + bad, x.define(1, LISTS, bad, 127, 0, 0));
            no("b " + bad, x.define(1, LISTS, 127, bad, 0, 0));
            no("c " + bad, x.define(1, LISTS, 127, 127, bad, 0));
        }
        int fifth = MOST_LIST + 1;
        no("a fifth set in a", x.define(1, LISTS, 1 + fifth, 1, 0, 0));
        no("a fifth set in b", x.define(1, LISTS, 1, 1 + fifth, 0, 0));
        no("a fifth set in c", x.define(1, LISTS, 1, 1, 1 + fifth, 0));
        due("none of them was taken", x.quorum(1, READ, 127), REFUSED);
    }

    private static void listsIgnore() {
        BallotDesk x = new BallotDesk();
        for (int far : FAR) yes("d " + far, x.define(0, LISTS, 1, 1, 1, far));
        due("FAST is by c", x.quorum(0, FAST, 1), 1);
        yes("d 0", x.define(0, LISTS, 1, 1, 1, 0));
        due("FAST is by c, with d 0, too", x.quorum(0, FAST, 1), 1);
        yes("d 1", x.define(0, LISTS, 1, 1, 0, 1));
        due("and not by d", x.quorum(0, FAST, 127), 0);
    }

    private static void listPlaces() {
        BallotDesk x = new BallotDesk();
        int four = 65 + 128 * (66 + 128 * (68 + 128 * 72));
        yes("four in each, all with node 6", x.define(0, LISTS, four, four, four, 0));
        for (int kind = 0; kind < 3; kind++) {
            for (int n = 0; n < 4; n++) due("kind " + kind + ", set " + n, x.quorum(0, kind, 64 + (1 << n)), 1);
            due("kind " + kind + ", not in it", x.quorum(0, kind, 64 + 32 + 16), 0);
            due("kind " + kind + ", how many", x.system(0, kind, 2), 4);
        }
        for (int place = 0; place < 4; place++) {
            yes("just at " + place, x.define(1, LISTS, 127 << 7 * place, 64 << 7 * place, 127 << 7 * place, 0));
            due("READ at " + place, x.quorum(1, READ, 127), 1);
            due("READ, less", x.quorum(1, READ, 63), 0);
            due("WRITE at " + place, x.quorum(1, WRITE, 64), 1);
            due("WRITE, others", x.quorum(1, WRITE, 63), 0);
            due("FAST at " + place, x.quorum(1, FAST, 127), 1);
        }
    }

    private static void listZeros() {
        BallotDesk x = new BallotDesk();
        yes("three of four are 0", x.define(0, LISTS, 5 << 21, 5 << 7, 5 << 14, 0));
        for (int kind = 0; kind < 3; kind++) {
            due("no node, kind " + kind, x.quorum(0, kind, 0), 0);
            due("others, kind " + kind, x.quorum(0, kind, 122), 0);
            due("the set, kind " + kind, x.quorum(0, kind, 5), 1);
        }
    }

    private static void noFast() {
        BallotDesk x = new BallotDesk();
        yes("COUNT", x.define(0, COUNT, 7, 2, 2, 0));
        yes("GRID", x.define(1, GRID, 2, 3, 1, 0));
        yes("WEIGHTS", x.define(2, WEIGHTS, 111, 2, 2, 0));
        yes("LISTS", x.define(3, LISTS, 7, 7, 0, 1));
        for (int s = 0; s < 4; s++) {
            due("no node, sort " + s, x.quorum(s, FAST, 0), 0);
            due("all nodes, sort " + s, x.quorum(s, FAST, 127), 0);
            due("no FAST ballot, sort " + s, x.begin(s, true), REFUSED);
        }
    }

    private static void supersets() {
        int four = 65 + 128 * (66 + 128 * (68 + 128 * 72));
        int[][] numbers = {{COUNT, 0b1010101, 3, 3, 4}, {GRID, 2, 3, 0, 1}, {WEIGHTS, 1234567, 15, 14, 22},
            {LISTS, four, four, four, 0}};
        for (int[] of : numbers) {
            BallotDesk x = new BallotDesk();
            yes("define", x.define(0, of[0], of[1], of[2], of[3], of[4]));
            for (int kind = 0; kind < 3; kind++) {
                int[] is = new int[128];
                for (int set = 0; set < 128; set++) is[set] = x.quorum(0, kind, set);
                for (int set = 0; set < 128; set++) {
                    for (int n = 0; n < 7; n++) yes("sort " + of[0] + ", " + set + " and " + n, is[set | 1 << n] >= is[set]);
                }
                due("all nodes", is[127], 1);
                due("no node", is[0], 0);
            }
        }
    }

    private static void soundExists() {
        BallotDesk x = new BallotDesk();
        yes("READ all of the set", x.define(0, COUNT, 7, 3, 3, 0));
        no("READ one more than the set has", x.define(0, COUNT, 7, 4, 3, 0));
        no("WRITE one more than the set has", x.define(0, COUNT, 7, 3, 4, 0));
        yes("READ all that they weigh", x.define(0, WEIGHTS, 9001, 10, 10, 0));
        no("READ 1 more than they weigh", x.define(0, WEIGHTS, 9001, 11, 10, 0));
        no("WRITE 1 more than they weigh", x.define(0, WEIGHTS, 9001, 10, 11, 0));
        no("READ list is empty", x.define(0, LISTS, 0, 127, 0, 0));
        no("WRITE list is empty", x.define(0, LISTS, 127, 0, 0, 0));
        no("both lists are empty", x.define(0, LISTS, 0, 0, 0, 0));
        yes("FAST ones there need not be", x.define(0, COUNT, 7, 3, 3, 4));
    }

    private static void soundWrite() {
        BallotDesk x = new BallotDesk();
        for (int nodes = 1; nodes <= 7; nodes++) {
            for (int b = 1; b <= nodes; b++) {
                for (int c = 1; c <= nodes; c++) {
                    due(b + " and " + c + " of " + nodes, x.define(0, COUNT, (1 << nodes) - 1, b, c, 0), b + c > nodes);
                }
            }
        }
        no("the last READ beside the last WRITE one", x.define(1, LISTS, 3 + (4 << 21), 7 + (3 << 21), 0, 0));
        yes("all pairs have one", x.define(1, LISTS, 3 + (6 << 21), 7 + (2 << 21), 0, 0));
        no("node 6 alone and the others", x.define(2, LISTS, 64, 63, 0, 0));
        yes("node 6 in both", x.define(2, LISTS, 64, 65, 0, 0));
    }

    private static void soundSameFast() {
        BallotDesk x = new BallotDesk();
        no("one FAST beside a READ one", x.define(0, LISTS, 1, 1, 2, 0));
        yes("one FAST that meets it", x.define(0, LISTS, 1, 1, 3, 0));
        no("it misses the last of READ", x.define(0, LISTS, 3 + (6 << 21), 2, 1, 0));
        yes("it meets all of READ", x.define(0, LISTS, 3 + (6 << 21), 2, 2, 0));
    }

    private static void soundTwoFast() {
        BallotDesk x = new BallotDesk();
        no("each two meet, but not all three", x.define(0, LISTS, 3, 3, 5 + (6 << 7), 0));
        yes("all three meet", x.define(0, LISTS, 3, 3, 3 + (6 << 7), 0));
        no("the last two FAST ones", x.define(0, LISTS, 7, 7, 7 + (7 << 7) + (1 << 14) + (2 << 21), 0));
        for (int nodes = 1; nodes <= 7; nodes++) {
            for (int b = 1; b <= nodes; b++) {
                for (int d = 1; d <= nodes; d++) {
                    boolean sound = b + 2 * d > 2 * nodes;
                    due(b + " and twice " + d + " of " + nodes, x.define(1, COUNT, (1 << nodes) - 1, b, nodes, d), sound);
                }
            }
        }
        yes("WRITE and FAST need not meet", x.define(2, LISTS, 3, 1, 2, 0));
    }

    private static void definedAgain() {
        BallotDesk x = three();
        due("as first", x.quorum(0, READ, 3), 1);
        yes("again", x.define(0, COUNT, 56, 1, 3, 0));
        due("not as first", x.quorum(0, READ, 7), 0);
        due("as then", x.quorum(0, READ, 8), 1);
        due("no FAST ones are left of the first", x.quorum(0, FAST, 127), 0);
        yes("a ballot of another SYSTEM does not hinder", x.define(1, COUNT, 1, 1, 1, 1));
        due("begin", x.begin(1, false), 1);
        yes("again", x.define(0, COUNT, 7, 2, 2, 3));
        due("as at last", x.quorum(0, FAST, 7), 1);
    }

    private static void refusedRange() {
        unchanged(Checks::three, x -> {
            no("sort", x.define(0, 4, 127, 4, 4, 0));
            no("a", x.define(0, COUNT, 255, 4, 4, 0));
            no("b", x.define(0, COUNT, 127, 8, 4, 0));
            no("c", x.define(0, COUNT, 127, 7, 8, 0));
            no("d", x.define(0, COUNT, 127, 7, 7, 8));
            no("a b", x.define(0, GRID, 2, 4, 0, 0));
            no("weights", x.define(0, WEIGHTS, 19999999, 32, 32, 0));
            no("weight", x.define(0, WEIGHTS, 9999999, 32, 32, 64));
            no("lists", x.define(0, LISTS, 127, 127, MOST_LIST + 128, 0));
            no("of a new one", x.define(1, COUNT, 127, 7, 7, 8));
            no("s", x.define(4, COUNT, 127, 7, 7, 0));
        });
    }

    private static void refusedUnsound() {
        unchanged(Checks::three, x -> {
            no("COUNT", x.define(0, COUNT, 127, 3, 4, 0));
            no("GRID", x.define(0, GRID, 2, 2, 0, 1));
            no("WEIGHTS", x.define(0, WEIGHTS, 1111111, 3, 4, 0));
            no("LISTS", x.define(0, LISTS, 64, 63, 0, 0));
            no("by FAST alone", x.define(0, COUNT, 127, 4, 4, 5));
            no("of a new one", x.define(3, COUNT, 127, 4, 4, 5));
        });
        BallotDesk x = three();
        no("not SOUND", x.define(0, COUNT, 127, 4, 4, 5));
        for (int set = 0; set < 128; set++) {
            int nodes = Integer.bitCount(set & 7);
            due("READ as before " + set, x.quorum(0, READ, set), nodes >= 2 ? 1 : 0);
            due("WRITE as before " + set, x.quorum(0, WRITE, set), nodes >= 2 ? 1 : 0);
            due("FAST as before " + set, x.quorum(0, FAST, set), nodes == 3 ? 1 : 0);
        }
    }

    private static void refusedBallot() {
        unchanged(() -> three(2), x -> {
            no("another one", x.define(0, COUNT, 127, 4, 4, 0));
            no("the same again", x.define(0, COUNT, 7, 2, 2, 3));
        });
        BallotDesk x = three();
        for (int s = 1; s < 4; s++) yes("define", x.define(s, COUNT, 7, 2, 2, 0));
        due("a ballot of the last", x.begin(3, false), 1);
        due("a ballot of the first", x.begin(0, false), 2);
        no("the first ballot has it", x.define(3, COUNT, 127, 4, 4, 0));
        no("the last ballot has it", x.define(0, COUNT, 127, 4, 4, 0));
        yes("no ballot has it", x.define(1, COUNT, 127, 4, 4, 0));
        due("a refused begin", x.begin(2, true), REFUSED);
        yes("is no ballot", x.define(2, COUNT, 127, 4, 4, 0));
        pickAll(x, 1, 1);
        yes("completed", x.complete(1));
        no("a ballot that is COMPLETED has it, too", x.define(3, COUNT, 127, 4, 4, 0));
    }

    private static void quorumSets() {
        BallotDesk x = new BallotDesk();
        yes("define", x.define(0, COUNT, 127, 1, 7, 0));
        due("the empty one", x.quorum(0, READ, 0), 0);
        due("1", x.quorum(0, READ, 1), 1);
        due("all", x.quorum(0, WRITE, 127), 1);
        due("one less", x.quorum(0, WRITE, 126), 0);
        for (int set : outside(0, 127)) {
            for (int kind = 0; kind < 3; kind++) due("set " + set, x.quorum(0, kind, set), REFUSED);
        }
    }

    private static void quorumRefused() {
        BallotDesk x = new BallotDesk();
        for (int s = 0; s < 4; s++) due("none yet", x.quorum(s, READ, 127), REFUSED);
        yes("define", x.define(1, COUNT, 127, 4, 4, 0));
        due("one", x.quorum(1, READ, 127), 1);
        due("not FAST", x.quorum(1, FAST, 127), 0);
        for (int kind : outside(0, 2)) due("kind " + kind, x.quorum(1, kind, 127), REFUSED);
        for (int s : new int[] {-1, 0, 2, 3, 4}) due("system " + s, x.quorum(s, READ, 127), REFUSED);
        for (int set : new int[] {-1, 128}) due("set " + set, x.quorum(1, READ, set), REFUSED);
    }

    private static void systemLeast() {
        BallotDesk x = new BallotDesk();
        yes("define", x.define(0, COUNT, 127, 7, 1, 7));
        due("all", x.system(0, READ, 0), 7);
        due("one", x.system(0, WRITE, 0), 1);
        due("FAST", x.system(0, FAST, 0), 7);
        yes("the least is the last in the list", x.define(1, LISTS, 127 + (32 << 21), 32, 127 + (96 << 14), 0));
        due("READ", x.system(1, READ, 0), 1);
        due("FAST", x.system(1, FAST, 0), 2);
        yes("the last SYSTEM", x.define(3, COUNT, 127, 7, 1, 7));
        due("its last kind", x.system(3, FAST, 0), 7);
    }

    private static void systemLosses() {
        BallotDesk x = new BallotDesk();
        yes("define", x.define(0, COUNT, 127, 7, 1, 7));
        due("none may miss", x.system(0, READ, 1), 0);
        due("six may miss", x.system(0, WRITE, 1), 6);
        due("none of FAST", x.system(0, FAST, 1), 0);
        yes("node 5 is in all", x.define(1, LISTS, 127 + (32 << 21), 32, 0, 0));
        due("whichever is taken away: node 5, too", x.system(1, READ, 1), 0);
        yes("nodes outside the set count as well", x.define(2, COUNT, 7, 2, 2, 3));
        due("one", x.system(2, READ, 1), 1);
        yes("4 of 7 and 6", x.define(3, COUNT, 127, 4, 4, 6));
        due("three", x.system(3, READ, 1), 3);
        due("one of the last SYSTEM's last kind", x.system(3, FAST, 1), 1);
    }

    private static void systemTight() {
        BallotDesk x = new BallotDesk();
        yes("define", x.define(0, COUNT, 127, 7, 1, 0));
        due("one", x.system(0, READ, 2), 1);
        due("seven", x.system(0, WRITE, 2), 7);
        due("without quorums", x.system(0, FAST, 2), 0);
        yes("the most", x.define(1, COUNT, 127, 4, 4, 0));
        due("4 of 7", x.system(1, READ, 2), 35);
        yes("twice the same, and one in it", x.define(2, LISTS, 6 + (6 << 7) + (14 << 14) + (5 << 21), 4, 0, 0));
        due("two", x.system(2, READ, 2), 2);
        yes("a node that weighs nothing", x.define(3, WEIGHTS, 9110, 2, 10, 0));
        due("node 3, or nodes 1 and 2", x.system(3, READ, 2), 2);
        due("node 3 and one of them", x.system(3, WRITE, 2), 2);
        yes("the last SYSTEM", x.define(3, COUNT, 127, 7, 1, 6));
        due("its last kind", x.system(3, FAST, 2), 7);
    }

    private static void systemNone() {
        BallotDesk x = new BallotDesk();
        yes("d 0", x.define(0, COUNT, 7, 2, 2, 0));
        yes("d too great", x.define(1, COUNT, 7, 2, 2, 7));
        for (int s = 0; s < 2; s++) {
            due("least", x.system(s, FAST, 0), NONE);
            due("losses", x.system(s, FAST, 1), NONE);
            due("not for 2", x.system(s, FAST, 2), 0);
        }
    }

    private static void systemRefused() {
        BallotDesk x = new BallotDesk();
        for (int s = 0; s < 4; s++) due("none yet", x.system(s, READ, 0), REFUSED);
        yes("define", x.define(1, COUNT, 7, 2, 2, 0));
        for (int what : outside(0, 2)) {
            for (int kind = 0; kind < 3; kind++) due("what " + what, x.system(1, kind, what), REFUSED);
        }
        for (int kind : outside(0, 2)) {
            for (int what = 0; what < 3; what++) due("kind " + kind, x.system(1, kind, what), REFUSED);
        }
        for (int s : new int[] {-1, 0, 2, 3, 4}) due("system " + s, x.system(s, READ, 0), REFUSED);
    }

    private static void commonEdges() {
        BallotDesk x = new BallotDesk();
        yes("7 and 1 of 7", x.define(0, COUNT, 127, 7, 1, 7));
        yes("node 6", x.define(1, COUNT, 64, 1, 1, 1));
        yes("nodes 0 to 2", x.define(2, COUNT, 7, 2, 2, 3));
        due("all and all", x.common(0, READ, 0, READ), 7);
        due("all and one", x.common(0, READ, 0, WRITE), 1);
        due("one and one", x.common(0, WRITE, 0, WRITE), 0);
        due("a SYSTEM and itself: node 6 twice", x.common(1, READ, 1, FAST), 1);
        due("no node in common", x.common(1, READ, 2, READ), 0);
        due("two of three", x.common(2, READ, 2, WRITE), 1);
        due("two of three and all three", x.common(2, READ, 2, FAST), 2);
        due("the other way", x.common(2, FAST, 2, READ), 2);
        due("all and two of three", x.common(0, FAST, 2, READ), 2);
        yes("the last SYSTEM", x.define(3, COUNT, 127, 7, 1, 7));
        due("its last kind", x.common(3, FAST, 3, FAST), 7);
        due("with the first", x.common(3, FAST, 0, READ), 7);
    }

    private static void commonNone() {
        BallotDesk x = three();
        yes("without FAST", x.define(1, COUNT, 7, 2, 2, 0));
        due("t has none", x.common(0, FAST, 1, FAST), NONE);
        due("s has none", x.common(1, FAST, 0, FAST), NONE);
        due("both have none", x.common(1, FAST, 1, FAST), NONE);
        due("just the kinds that are asked for", x.common(1, READ, 0, FAST), 2);
    }

    private static void commonRefused() {
        BallotDesk x = new BallotDesk();
        due("none yet", x.common(0, READ, 0, READ), REFUSED);
        yes("define", x.define(2, COUNT, 7, 2, 2, 0));
        for (int s : new int[] {-1, 0, 1, 3, 4}) {
            due("s " + s, x.common(s, READ, 2, READ), REFUSED);
            due("t " + s, x.common(2, READ, s, READ), REFUSED);
            due("t before NONE " + s, x.common(2, FAST, s, READ), REFUSED);
            due("s before NONE " + s, x.common(s, READ, 2, FAST), REFUSED);
        }
        for (int kind : outside(0, 2)) {
            due("kind " + kind, x.common(2, kind, 2, READ), REFUSED);
            due("other " + kind, x.common(2, READ, 2, kind), REFUSED);
            due("other before NONE " + kind, x.common(2, FAST, 2, kind), REFUSED);
            due("kind before NONE " + kind, x.common(2, kind, 2, FAST), REFUSED);
        }
    }
}
