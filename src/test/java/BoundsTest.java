import java.math.BigInteger;
import java.util.ArrayList;
import java.util.List;

/**
 * The bounds of the document outside of a round: of the file, the peers, the settings and each call's numbers.
 * One method for each sentence: the values at the bound, those just outside, and what a refused call leaves.
 */
public final class BoundsTest extends Checks {
    /** A call with one number that is looked at. */
    private interface Call {
        int on(PieceSwarm x, int v);
    }

    public static void main(String[] args) {
        piecesOfTheFile();
        blocksOfAPiece();
        peersAsTheyCome();
        kinds();
        caps();
        hasAndClaims();
        copiesFromNoneToSix();
        leftFromAllToNothing();
        atFirstNothingSuspectedNorRated();
        settings();
        settingsThatAreNone();
        newObject();
        beginsTellsHowManyThereWere();
        beginsMakesAllAnew();
        beginsLeavesStatesTextAndRefused();
        peerFull();
        peerGotNothing();
        givesBad();
        givesNo();
        givesTellsHowMany();
        givesOverBlocks();
        roundsFromOneToThirty();
        finishesFromOneToNinety();
        finishesNo();
        finishesLooksAheadOfEach();
        finishesNone();
        ofNumbers();
        ofAheadOfARound();
        ofAtTheGreatest();
        blockNumbers();
        blockAnswers();
        rateAndSuspectsNumbers();
        rateAndSuspectsAlike();
        copiesNumbers();
        rarestOneAtLeast();
        rarestOfLikeOnesTheLeast();
        ratioNumbers();
        ratioByNothing();
        spreadFromNoneToSix();
        fairnessOfNothing();
        fairnessAtItsLeast();
        countNumbers();
        countsSoFar();
        pairsThatBarEachOther();
        countOfHonestOnes();
        toldNumbers();
        digestWraps();
        digestOfNoPeers();
        manyCalls();
        endWithExitCode();
    }

    /** Six peers of all kinds behind some rounds, with a text, states and refused calls. */
    private static PieceSwarm rich() {
        PieceSwarm x = swarm(3, 2, "H1 L2 H3 M1 H2 M4", "20 41 42 51");
        x.rounds(3);
        type(x, "r 1;");
        x.peer(0, 0);
        x.finishes(91);
        x.gives(1, 0);
        x.peer(0, 1);
        return x;
    }

    /** None from least to most is BAD, what lies outside is, and changes nothing. */
    private static void range(String what, int least, int most, Call call) {
        for (int v = least; v <= most; v++) {
            PieceSwarm x = rich();
            call.on(x, v);
            due(what + " " + v + " is not BAD", 2, x.told(0));
        }
        int[] outside = {least - 1, most + 1, least - 256, most + 256, Integer.MIN_VALUE, Integer.MAX_VALUE};
        for (int v : outside) {
            PieceSwarm x = rich();
            refused(what + " " + v, x, BAD, () -> call.on(x, v));
        }
    }

    // ---- the terms

    private static void piecesOfTheFile() {
        says("THE FILE has P PIECES (1 .. 8; 4 at first)");
        due("at first", 4, new PieceSwarm().count(1));
        range("begins P", 1, 8, (x, v) -> x.begins(v, 2));
        for (int p = 1; p <= 8; p++) {
            int most = p;
            PieceSwarm x = honest(p, 1, 1);
            due("P", p, x.count(1));
            due("the last piece", 1, x.gives(0, p - 1));
            refused("the one behind it", x, BAD, () -> x.gives(0, most));
        }
    }

    private static void blocksOfAPiece() {
        says("B BLOCKS each (1 .. 4; 2 at first)");
        due("at first", 2, new PieceSwarm().count(2));
        range("begins B", 1, 4, (x, v) -> x.begins(3, v));
        for (int b = 1; b <= 4; b++) {
            int most = b;
            PieceSwarm x = honest(1, b, 1);
            due("B", b, x.count(2));
            due("the last block", NONE, x.block(0, 0, b - 1));
            refused("the one behind it", x, BAD, () -> x.block(0, 0, most));
        }
    }

    private static void peersAsTheyCome() {
        says("PEERS 0 .. 5, as they come");
        PieceSwarm x = new PieceSwarm();
        for (int i = 0; i < 6; i++) {
            int number = i;
            refused("not there yet", x, BAD, () -> x.of(number, 0));
            leavesState("its number", x, i, () -> x.peer(0, 1));
            due("there", 0, x.of(i, 0));
        }
        refused("a seventh", x, FULL, () -> x.peer(0, 1));
        due("back", 4, x.back());
        due("the number is free again", 5, x.peer(1, 1));
        due("all of them", 6, x.begins(4, 2));
        due("the numbers begin anew", 0, x.peer(2, 1));
    }

    private static void kinds() {
        says("each of a KIND: 0 HONEST, 1 MISER, 2 LIAR");
        for (int kind = 0; kind <= 2; kind++) {
            int it = kind;
            PieceSwarm x = new PieceSwarm();
            leavesState("kind", x, 0, () -> x.peer(it, 1));
            due("of", kind, x.of(0, 0));
        }
        for (int kind : new int[] {-1, 3, Integer.MIN_VALUE, Integer.MAX_VALUE}) {
            PieceSwarm x = honest(2, 2, 1);
            refused("no kind " + kind, x, BAD, () -> x.peer(kind, 1));
        }
    }

    private static void caps() {
        says("with a CAP (1 .. 4)");
        for (int cap = 1; cap <= 4; cap++) {
            int it = cap;
            PieceSwarm x = new PieceSwarm();
            leavesState("cap", x, 0, () -> x.peer(0, it));
            due("of", cap, x.of(0, 1));
        }
        for (int cap : new int[] {0, 5, -1, Integer.MIN_VALUE, Integer.MAX_VALUE}) {
            PieceSwarm x = honest(2, 2, 1);
            refused("no cap " + cap, x, BAD, () -> x.peer(0, cap));
        }
    }

    private static void hasAndClaims() {
        says("It CLAIMS the PIECES that it HAS; a LIAR CLAIMS all");
        for (int p = 1; p <= 8; p++) {
            PieceSwarm x = swarm(p, 4, "H1 M1 L1", "");
            x.gives(0, p - 1);
            x.gives(1, 0);
            due("an honest one has", 1 << p - 1, x.of(0, 2));
            due("an honest one claims", 1 << p - 1, x.of(0, 9));
            due("a miser claims", 1, x.of(1, 9));
            due("a liar has", 0, x.of(2, 2));
            due("a liar claims", (1 << p) - 1, x.of(2, 9));
        }
    }

    private static void copiesFromNoneToSix() {
        says("COPIES of a PIECE: how many PEERS CLAIM it");
        PieceSwarm x = swarm(2, 2, "H1 M1 H1 M1 H1 M1", "");
        for (int i = 0; i < 6; i++) {
            due("copies", i, x.copies(1));
            x.gives(i, 1);
        }
        due("all of them", 6, x.copies(1));
        due("of another piece", 0, x.copies(0));
        PieceSwarm y = swarm(2, 2, "L1 L1 L1 L1 L1 L1", "");
        due("liars alone", 6, y.copies(0));
    }

    private static void leftFromAllToNothing() {
        says("LEFT of a PEER: BLOCKS of PIECES that it has not, which it has not GOT");
        PieceSwarm x = swarm(8, 4, "H1 L4", "");
        due("at the most", 32, x.of(0, 3));
        due("of a liar", 32, x.of(1, 3));
        x.rounds(1);
        due("a false block is got, too", 31, x.of(0, 3));
        x.rounds(2);
        due("all but one of a piece", 29, x.of(0, 3));
        x.rounds(1);
        due("a dropped piece is left whole", 32, x.of(0, 3));
        for (int n = 0; n < 8; n++) {
            x.gives(0, n);
            due("given", 28 - 4 * n, x.of(0, 3));
        }
        PieceSwarm y = swarm(1, 1, "H1", "");
        due("at the least", 1, y.of(0, 3));
        y.gives(0, 0);
        due("nothing", 0, y.of(0, 3));
    }

    private static void atFirstNothingSuspectedNorRated() {
        says("suspects each other one so often (0 at first) .. RATE of PEER j from PEER i, a float: 0 at first");
        PieceSwarm x = swarm(8, 4, "H1 L1 M1 H1 L1 M1", "");
        for (int j = 0; j < 6; j++) {
            due("bars none", 0, x.of(j, 6));
            for (int i = 0; i < 6; i++) {
                if (i != j) {
                    due("suspects", 0, x.suspects(j, i));
                    due("rate", 0, x.rate(j, i));
                }
            }
        }
    }

    private static void settings() {
        says("Settings: SLOTS (1 .. 4; 2), FADE (0 .. 9; 5), ENDGAME (0 .. 8; 2), PERIOD (1 .. 9; 3)");
        int[] least = {1, 0, 0, 1};
        int[] most = {4, 9, 8, 9};
        int[] first = {2, 5, 2, 3};
        for (int what = 0; what < 4; what++) {
            int which = what;
            range("setting " + what, least[what], most[what], (x, v) -> x.sets(which, v));
            for (int v = least[what]; v <= most[what]; v++) {
                int value = v;
                PieceSwarm x = new PieceSwarm();
                leavesState("what it was", x, first[what], () -> x.sets(which, value));
                due("what it is", v, x.told(3 + what));
                for (int other = 0; other < 4; other++) {
                    if (other != what) {
                        due("the others stay", first[other], x.told(3 + other));
                    }
                }
                due("what it was then", v, x.sets(what, first[what]));
            }
        }
    }

    private static void settingsThatAreNone() {
        says("SLOTS (what 0), FADE (1), ENDGAME (2), PERIOD (3) becomes v: what it was. S. BAD");
        for (int what : new int[] {-1, 4, 1000, Integer.MIN_VALUE, Integer.MAX_VALUE}) {
            PieceSwarm x = rich();
            refused("no setting " + what, x, BAD, () -> x.sets(what, 1));
        }
    }

    // ---- promises 1 to 7

    private static void newObject() {
        says("PieceSwarm(): As told; no PEERS");
        PieceSwarm x = new PieceSwarm();
        due("peers", 0, x.count(0));
        due("T", 0, x.count(3));
        due("finished: there is no honest one", 1, x.count(9));
        refused("of none", x, BAD, () -> x.of(0, 0));
        refused("ratio of none", x, BAD, () -> x.ratio(0));
        refused("a gift to none", x, BAD, () -> x.gives(0, 0));
        refused("no state", x, NO, x::back);
        refused("none to finish", x, NO, () -> x.finishes(1));
        changesNothing("no rarest", x, NONE, x::rarest);
        changesNothing("no text", x, 0, x::clear);
        changesNothing("nothing to do: a fault", x, -10, x::does);
    }

    private static void beginsTellsHowManyThereWere() {
        says("how many PEERS there were. S");
        for (int many = 0; many <= 6; many++) {
            PieceSwarm x = new PieceSwarm();
            for (int i = 0; i < many; i++) {
                x.peer(i % 3, 1);
            }
            leavesState("how many", x, many, () -> x.begins(8, 4));
            leavesState("then none", x, 0, () -> x.begins(8, 4));
        }
    }

    private static void beginsMakesAllAnew() {
        says("All anew, as at first, with P PIECES of B BLOCKS");
        PieceSwarm x = countsOfAllKinds();
        x.sets(0, 4);
        x.sets(1, 0);
        x.sets(2, 0);
        x.sets(3, 9);
        x.begins(8, 4);
        PieceSwarm y = new PieceSwarm();
        // As many states as x has.
        for (int k = 0; k < 5; k++) {
            y.begins(8, 4);
        }
        for (int k = 0; k < 10; k++) {
            due("count " + k, y.count(k), x.count(k));
        }
        for (int k = 3; k < 7; k++) {
            due("setting " + k, y.told(k), x.told(k));
        }
        type(x, "r 1;");
        type(y, "r 1;");
        for (int k = 0; k < 6; k++) {
            x.peer(k == 1 ? 2 : 0, 2);
            y.peer(k == 1 ? 2 : 0, 2);
            due("like a first one with peers", plainDigest(y), plainDigest(x));
        }
        x.gives(3, 5);
        y.gives(3, 5);
        for (int k = 0; k < 9; k++) {
            x.rounds(1);
            y.rounds(1);
            due("like a first one in its rounds", plainDigest(y), plainDigest(x));
        }
    }

    private static void beginsLeavesStatesTextAndRefused() {
        says("(STATES, THE TEXT, how often refused stay)");
        PieceSwarm x = honest(2, 1, 1);
        type(x, "p 0 3;");
        x.peer(0, 0);
        x.back();
        x.back();
        x.back();
        x.peer(0, 1);
        x.begins(5, 3);
        due("states", 2, x.told(8));
        due("bytes", 6, x.told(7));
        due("refused BAD", 1, x.told(0));
        due("refused NO", 1, x.told(1));
        due("the bytes are the same", 1, x.does());
        due("as the text says", 3, x.of(0, 1));
        due("back ahead of the text", 2, x.back());
        due("back ahead of it", 1, x.back());
        due("the peer", 1, x.count(0));
        due("P", 4, x.count(1));
    }

    private static void peerFull() {
        says("FULL: there are 6");
        PieceSwarm x = swarm(2, 2, "H1 H1 H1 H1 H1", "");
        due("the sixth", 5, x.peer(2, 4));
        refused("a seventh", x, FULL, () -> x.peer(0, 1));
        refused("a bad seventh: the first of what is told", x, BAD, () -> x.peer(3, 1));
        refused("a bad seventh", x, BAD, () -> x.peer(0, 5));
        x.back();
        leavesState("a sixth again", x, 5, () -> x.peer(0, 1));
    }

    private static void peerGotNothing() {
        says("A new PEER, that GOT nothing: its number");
        // Each miser gets a false block of the liars 0 and 5 and bars them.
        PieceSwarm x = swarm(3, 1, "L4 M1 M1 M1 M1 L4", "");
        x.sets(0, 4);
        x.rounds(3);
        due("rates of the one that was there", 1, x.rate(4, 0) > 0 ? 1 : 0);
        due("suspicions of the one that was there", 1, x.suspects(4, 0));
        x.begins(3, 2);
        for (int i = 0; i < 6; i++) {
            due("number", i, x.peer(0, 2));
            int[] want = {0, 2, 0, 6, 0, NONE, 0, 0, 0, 0};
            for (int k = 0; k < want.length; k++) {
                due("of " + k, want[k], x.of(i, k));
            }
            for (int n = 0; n < 3; n++) {
                due("block 0", NONE, x.block(i, n, 0));
                due("block 1", NONE, x.block(i, n, 1));
            }
            for (int j = 0; j < i; j++) {
                due("rates", 0, x.rate(i, j) + x.rate(j, i));
                due("suspects", 0, x.suspects(i, j) + x.suspects(j, i));
            }
        }
    }

    private static void givesBad() {
        says("PIECE n is given to PEER i from outside .. BAD");
        range("peer", 0, 5, (x, v) -> x.gives(v, 0));
        range("piece", 0, 2, (x, v) -> x.gives(0, v));
        PieceSwarm x = rich();
        refused("a liar and no piece: BAD is the first", x, BAD, () -> x.gives(1, 3));
        refused("a liar and no piece", x, BAD, () -> x.gives(1, -1));
    }

    private static void givesNo() {
        says("NO: it HAS it, or is a LIAR");
        PieceSwarm x = swarm(2, 2, "H1 M1 L1 H1", "00 11");
        refused("it has it, given", x, NO, () -> x.gives(0, 0));
        refused("a miser has it", x, NO, () -> x.gives(1, 1));
        refused("a liar", x, NO, () -> x.gives(2, 0));
        refused("a liar", x, NO, () -> x.gives(2, 1));
        leavesState("it has it not", x, 2, () -> x.gives(0, 1));
        PieceSwarm y = swarm(1, 2, "H1 H1", "00");
        y.rounds(1);
        leavesState("all but one block", y, 1, () -> y.gives(1, 0));
        due("back", 4, y.back());
        y.rounds(1);
        refused("it has it, got", y, NO, () -> y.gives(1, 0));
    }

    private static void givesTellsHowMany() {
        says("how many PIECES it HAS");
        PieceSwarm x = honest(8, 1, 1, 1);
        for (int n = 7; n >= 0; n--) {
            int piece = n;
            leavesState("given", x, 8 - n, () -> x.gives(0, piece));
        }
        due("bits", 255, x.of(0, 2));
        x.rounds(1);
        due("with one it got", 2, x.gives(1, 7));
        due("bits of the other one", 129, x.of(1, 2));
        due("blocks it got so far", 1, x.of(1, 8));
    }

    private static void givesOverBlocks() {
        says("(BLOCKS of it that it GOT are so no more)");
        PieceSwarm x = swarm(2, 4, "H1 H1", "00 01");
        x.rounds(3);
        due("the third block", 0, x.block(1, 0, 2));
        due("the fourth one", NONE, x.block(1, 0, 3));
        x.gives(1, 0);
        for (int b = 0; b < 4; b++) {
            due("whole", 100, x.block(1, 0, b));
        }
        due("left", 4, x.of(1, 3));
        due("got so far stays", 3, x.of(1, 8));
        x.back();
        due("as before", 0, x.block(1, 0, 2));
        // A false block of a piece that was given is never looked at.
        PieceSwarm y = swarm(1, 2, "L1 H1", "");
        y.rounds(1);
        due("a false one", 0, y.block(1, 0, 0));
        y.gives(1, 0);
        y.rounds(2);
        due("none dropped", 0, y.count(7));
        due("none suspected", 0, y.suspects(1, 0));
    }

    private static void roundsFromOneToThirty() {
        says("n (1 .. 30) ROUNDS: T then");
        range("rounds", 1, 30, (x, v) -> x.rounds(v));
        for (int n = 1; n <= 30; n++) {
            int many = n;
            PieceSwarm x = honest(8, 4, 1, 1);
            leavesState("T", x, n, () -> x.rounds(many));
            due("T by count", n, x.count(3));
            leavesState("T twice", x, 2 * n, () -> x.rounds(many));
        }
    }

    private static void finishesFromOneToNinety() {
        says("ROUNDS, n (1 .. 90) at most");
        range("finishes", 1, 90, (x, v) -> x.finishes(v));
        for (int n : new int[] {1, 2, 89, 90}) {
            PieceSwarm x = honest(8, 4, 1);
            leavesState("never", x, NONE, () -> x.finishes(n));
            due("T", n, x.count(3));
        }
    }

    private static void finishesNo() {
        says("NO: there is no HONEST PEER");
        PieceSwarm x = new PieceSwarm();
        refused("no peers", x, NO, () -> x.finishes(1));
        x.peer(1, 1);
        refused("a miser", x, NO, () -> x.finishes(90));
        x.peer(2, 1);
        refused("a liar", x, NO, () -> x.finishes(1));
        refused("BAD is the first", x, BAD, () -> x.finishes(0));
        refused("BAD is the first", x, BAD, () -> x.finishes(91));
        x.peer(0, 1);
        giveAll(x, 2);
        leavesState("an honest one", x, 0, () -> x.finishes(1));
    }

    private static void finishesLooksAheadOfEach() {
        says("until each HONEST PEER HAS all PIECES (looked at ahead of each): how many were done");
        // Four blocks by one a round.
        for (int n = 4; n <= 6; n++) {
            int many = n;
            PieceSwarm x = swarm(2, 2, "H1 H1", "00 01");
            leavesState("as many as are needed", x, 4, () -> x.finishes(many));
            due("T", 4, x.count(3));
            leavesState("none is needed, a state all the same", x, 0, () -> x.finishes(many));
            due("T stays", 4, x.count(3));
        }
        PieceSwarm y = swarm(2, 2, "H1 M1", "00 01");
        due("a miser need not have them", 0, y.finishes(90));
        PieceSwarm z = swarm(2, 2, "H1 L1", "00 01");
        due("nor a liar", 0, z.finishes(90));
    }

    private static void finishesNone() {
        says("NONE, if it is not so behind them");
        PieceSwarm x = swarm(2, 2, "H1 H1", "00 01");
        leavesState("one too few", x, NONE, () -> x.finishes(3));
        due("T", 3, x.count(3));
        due("one is left", 1, x.of(1, 3));
        leavesState("the last one", x, 1, () -> x.finishes(1));
    }

    // ---- promises 8 to 17

    private static void ofNumbers() {
        says("Of PEER i: KIND (what 0) .. PIECES it CLAIMS (9, bits). BAD");
        range("peer", 0, 5, (x, v) -> x.of(v, 0));
        range("what", 0, 9, (x, v) -> x.of(0, v));
        PieceSwarm x = rich();
        for (int what = 0; what <= 9; what++) {
            int which = what;
            changesNothing("of", x, x.of(3, what), () -> x.of(3, which));
        }
    }

    private static void ofAheadOfARound() {
        says("those it OPENED to in the last ROUND (4, bits; 0: no ROUND yet), LUCKY (5; NONE)");
        PieceSwarm x = swarm(4, 4, "H1 M1 M1 M1", "00 01 02 03");
        due("no round yet", 0, x.of(0, 4));
        due("no lucky yet", NONE, x.of(0, 5));
        x.rounds(1);
        // Regular is 1; of 2 and 3 number 16838 % 2 is 2.
        due("opened", 6, x.of(0, 4));
        due("lucky", 2, x.of(0, 5));
        x.peer(0, 1);
        due("a new one: no round yet", 0, x.of(4, 4));
        due("a new one: no lucky yet", NONE, x.of(4, 5));
        giveAll(x, 1);
        giveAll(x, 2);
        giveAll(x, 3);
        giveAll(x, 4);
        due("it is told of the last round", 6, x.of(0, 4));
        x.rounds(1);
        due("nobody wants", 0, x.of(0, 4));
        due("nobody is lucky", NONE, x.of(0, 5));
    }

    private static void ofAtTheGreatest() {
        says("PIECES that it HAS (2, bits) .. those it BARS (6, bits)");
        PieceSwarm x = swarm(8, 1, "L4 L4 L4 L4 L4 H1", "");
        x.sets(2, 0);
        x.sets(0, 1);
        x.rounds(1);
        due("the last one bars all others", 31, x.of(5, 6));
        due("pairs", 5, x.count(8));
        giveAll(x, 5);
        due("has all", 255, x.of(5, 2));
        PieceSwarm y = swarm(1, 1, "H1 L4 L4 L4 L4 L4", "");
        y.sets(2, 8);
        y.rounds(1);
        due("the first one bars all others", 62, y.of(0, 6));
        due("pairs of the first one", 5, y.count(8));
    }

    private static void blockNumbers() {
        says("BLOCK b of PIECE n with PEER i .. BAD");
        range("peer", 0, 5, (x, v) -> x.block(v, 0, 0));
        range("piece", 0, 2, (x, v) -> x.block(0, v, 0));
        range("block", 0, 1, (x, v) -> x.block(0, 0, v));
    }

    private static void blockAnswers() {
        says("from which PEER it was GOT (GOT and not WHOLE); 100: it HAS the PIECE; NONE: neither");
        PieceSwarm x = swarm(8, 4, "H1 M1 M1 M1 M1 H4", "");
        giveAll(x, 5);
        x.sets(0, 4);
        x.rounds(1);
        due("of the first peer from the last one", 5, x.block(0, 0, 0));
        due("not yet", NONE, x.block(0, 0, 1));
        due("given", 100, x.block(5, 7, 3));
        x.gives(0, 7);
        due("the last piece", 100, x.block(0, 7, 3));
        due("the one ahead of it", NONE, x.block(0, 6, 3));
        PieceSwarm y = swarm(1, 1, "H1 H1", "00");
        y.rounds(1);
        due("the only block is whole at once", 100, y.block(1, 0, 0));
        changesNothing("NONE is no refusal", x, NONE, () -> x.block(0, 6, 3));
    }

    private static void rateAndSuspectsNumbers() {
        says("RATE of j from i, as its bits. BAD .. How often j suspects i. BAD");
        range("rate j", 0, 5, (x, v) -> x.rate(v, v == 0 ? 1 : 0));
        range("rate i", 0, 5, (x, v) -> x.rate(v == 0 ? 1 : 0, v));
        range("suspects j", 0, 5, (x, v) -> x.suspects(v, v == 0 ? 1 : 0));
        range("suspects i", 0, 5, (x, v) -> x.suspects(v == 0 ? 1 : 0, v));
    }

    private static void rateAndSuspectsAlike() {
        says("BAD: alike, too");
        PieceSwarm x = rich();
        for (int i = 0; i < 6; i++) {
            int one = i;
            refused("rate", x, BAD, () -> x.rate(one, one));
            refused("suspects", x, BAD, () -> x.suspects(one, one));
        }
    }

    private static void copiesNumbers() {
        says("COPIES of PIECE n. BAD");
        range("piece", 0, 2, (x, v) -> x.copies(v));
    }

    private static void rarestOneAtLeast() {
        says("the fewest COPIES, but one at least .. NONE: none has any");
        PieceSwarm x = honest(8, 1, 1, 1, 1, 1, 1, 1);
        changesNothing("none has any", x, NONE, x::rarest);
        x.gives(0, 7);
        due("the only one", 7, x.rarest());
        for (int i = 1; i < 6; i++) {
            x.gives(i, 7);
            due("still the only one", 7, x.rarest());
        }
        x.gives(0, 6);
        due("rarer", 6, x.rarest());
    }

    private static void rarestOfLikeOnesTheLeast() {
        says("of like ones the least");
        PieceSwarm x = honest(8, 1, 1, 1, 1);
        for (int n = 7; n >= 0; n--) {
            x.gives(0, n);
            due("the least of those with one", n, x.rarest());
        }
        for (int n = 0; n < 8; n++) {
            x.gives(1, n);
            due("the next one", n == 7 ? 0 : n + 1, x.rarest());
        }
    }

    private static void ratioNumbers() {
        says("What PEER i sent by what it GOT .. BAD");
        range("peer", 0, 5, (x, v) -> x.ratio(v));
    }

    private static void ratioByNothing() {
        says("(as of(i, 7), of(i, 8), both as floats; by 0: 0)");
        PieceSwarm x = swarm(2, 1, "H1 H1", "00");
        changesNothing("nothing by nothing", x, 0, () -> x.ratio(0));
        x.rounds(1);
        due("one by nothing", 0, x.ratio(0));
        due("sent one", 1, x.of(0, 7));
        due("nothing by one", 0, x.ratio(1));
        x.gives(1, 1);
        x.rounds(1);
        due("one by one", bits(1f), x.ratio(0));
        PieceSwarm y = swarm(4, 1, "H1 H1", "00 01 02 13");
        y.finishes(90);
        due("three by one", bits(3f), y.ratio(0));
        due("one by three", bits(1f / 3f), y.ratio(1));
    }

    private static void spreadFromNoneToSix() {
        says("COPIES of all PIECES together by P (both as floats)");
        due("no peers", 0, new PieceSwarm().spread());
        for (int p = 1; p <= 8; p++) {
            PieceSwarm x = honest(p, 1, 1);
            due("none has any", 0, x.spread());
            x.gives(0, p - 1);
            due("one copy", bits(1f / p), x.spread());
            for (int i = 1; i < 6; i++) {
                x.peer(2, 1);
            }
            due("five liars", bits((5f * p + 1f) / p), x.spread());
            giveAll(x, 0);
            due("six", bits(6f), x.spread());
        }
    }

    private static void fairnessOfNothing() {
        says("1, if q is 0");
        due("no peers", bits(1.0), new PieceSwarm().fairness());
        for (int many = 1; many <= 6; many++) {
            PieceSwarm x = new PieceSwarm();
            for (int i = 0; i < many; i++) {
                x.peer(0, 1);
            }
            due("nothing sent", bits(1.0), x.fairness());
            x.rounds(30);
            due("nothing sent in rounds", bits(1.0), x.fairness());
        }
    }

    private static void fairnessAtItsLeast() {
        says("s * s / (PEERS as a double * q)");
        for (int many = 2; many <= 6; many++) {
            PieceSwarm x = honest(8, 4, 1);
            giveAll(x, 0);
            for (int i = 1; i < many; i++) {
                x.peer(1, 1);
            }
            x.rounds(1);
            due("one sends one block", bits(1.0 / many), x.fairness());
            x.rounds(2);
            due("one sends alone", bits(1.0 / many), x.fairness());
        }
        PieceSwarm y = swarm(2, 1, "H1 H1", "00 11");
        y.rounds(1);
        due("both alike", bits(1.0), y.fairness());
        y.peer(1, 1);
        due("a third that sent nothing", bits(4.0 / 6.0), y.fairness());
    }

    private static void countNumbers() {
        says("PEERS (what 0) .. whether each HONEST PEER HAS all PIECES (9 ..). BAD");
        range("what", 0, 9, (x, v) -> x.count(v));
    }

    /** Three blocks sent, one of them false, one ask cancelled, one piece dropped, one pair that bars. */
    private static PieceSwarm countsOfAllKinds() {
        PieceSwarm x = swarm(1, 1, "L1 M1 H1 H1 M1", "20 30 40");
        x.peer(1, 1);
        x.sets(0, 4);
        x.rounds(1);
        return x;
    }

    private static void countsSoFar() {
        says("BLOCKS sent so far (4), false ones of them (5), CANCELLED ones (6), PIECES DROPPED (7), pairs that BAR (8)");
        PieceSwarm x = honest(1, 1, 1, 1);
        for (int what = 3; what <= 8; what++) {
            due("nothing yet " + what, 0, x.count(what));
        }
        PieceSwarm y = countsOfAllKinds();
        // The liar can send to 1 alone, which drops it; 2 sends to 1 and not to 5, 3 to 5, what 1 asks it is cancelled.
        int[] due = {1, 3, 1, 1, 1, 1};
        for (int what = 3; what <= 8; what++) {
            due("count " + what, due[what - 3], y.count(what));
        }
        y.rounds(1);
        for (int what = 4; what <= 8; what++) {
            due("nothing more " + what, due[what - 3], y.count(what));
        }
        y.back();
        y.back();
        for (int what = 3; what <= 8; what++) {
            due("taken back " + what, 0, y.count(what));
        }
    }

    private static void pairsThatBarEachOther() {
        says("pairs that BAR (8)");
        PieceSwarm x = swarm(4, 2, "H4 H4 L4", "00 01 12 13");
        x.sets(0, 4);
        // What 0 and 1 have of one another's pieces comes half from the liar, so both drop it, and suspect both senders.
        x.rounds(1);
        due("suspected once each", 1111, 1000 * x.suspects(0, 1) + 100 * x.suspects(0, 2)
                + 10 * x.suspects(1, 0) + x.suspects(1, 2));
        due("none yet", 0, x.count(8));
        x.rounds(1);
        due("0 bars 1 and 2", 6, x.of(0, 6));
        due("1 bars 0 and 2", 5, x.of(1, 6));
        due("two that bar each other are two pairs", 4, x.count(8));
        x.rounds(1);
        due("nothing is opened any more", 0, x.of(0, 4) + x.of(1, 4) + x.of(2, 4));
    }

    private static void countOfHonestOnes() {
        says("whether each HONEST PEER HAS all PIECES (9; 1: also if there is none)");
        PieceSwarm x = new PieceSwarm();
        x.begins(2, 1);
        due("no peers", 1, x.count(9));
        x.peer(1, 1);
        x.peer(2, 1);
        due("no honest ones", 1, x.count(9));
        x.peer(0, 1);
        due("one with nothing", 0, x.count(9));
        x.gives(2, 0);
        due("all but one piece", 0, x.count(9));
        x.gives(2, 1);
        due("all", 1, x.count(9));
        x.peer(0, 1);
        due("another one", 0, x.count(9));
    }

    // ---- promises 22 and 23, and how long an object is used

    private static void toldNumbers() {
        says("How often refused: BAD (0) .. STATES (8). BAD");
        range("what", 0, 8, (x, v) -> x.told(v));
        PieceSwarm x = rich();
        for (int k = 1; k <= 20; k++) {
            x.told(9);
            due("its own refusals count", 2 + k, x.told(0));
        }
    }

    private static void digestWraps() {
        says("h = 31 h + v for each v");
        PieceSwarm x = rich();
        BigInteger h = BigInteger.valueOf(2559);
        for (long v : numbersOf(x)) {
            h = h.multiply(BigInteger.valueOf(31)).add(BigInteger.valueOf(v));
        }
        due("with Java's wrap-around", h.longValue(), x.digest());
        long same = x.digest();
        due("it changes nothing", same, x.digest());
        due("nothing is refused by it", 2, x.told(0));
    }

    private static long[] numbersOf(PieceSwarm x) {
        List<Long> all = new ArrayList<>();
        for (int k = 0; k <= 8; k++) {
            all.add((long) x.told(k));
        }
        for (int k = 0; k <= 9; k++) {
            all.add((long) x.count(k));
        }
        for (int i = 0; i < 6; i++) {
            for (int k = 0; k <= 9; k++) {
                all.add((long) x.of(i, k));
            }
            for (int spot = 0; spot < 6; spot++) {
                all.add((long) x.block(i, spot / 2, spot % 2));
            }
            for (int j = 0; j < 6; j++) {
                if (j != i) {
                    all.add((long) x.rate(i, j));
                    all.add((long) x.suspects(i, j));
                }
            }
        }
        all.add((long) x.spread());
        all.add(x.fairness());
        return all.stream().mapToLong(v -> v).toArray();
    }

    private static void digestOfNoPeers() {
        says("told(0) to told(8); count(0) to count(9) .. spread(); fairness()");
        long h = 2559;
        long[] first = {0, 0, 0, 2, 5, 2, 3, 0, 0, 0, 4, 2, 0, 0, 0, 0, 0, 0, 1, 0, bits(1.0)};
        for (long v : first) {
            h = 31 * h + v;
        }
        due("a new object", h, new PieceSwarm().digest());
    }

    private static void manyCalls() {
        says("An object is used for at most 512 calls after it has been made");
        PieceSwarm x = new PieceSwarm();
        x.begins(1, 1);
        x.peer(0, 1);
        for (int k = 1; k <= 508; k++) {
            due("T", NONE, x.finishes(90));
        }
        due("T at the 511th call", 508 * 90, x.count(3));
        due("the 512th call", 4, x.back());
        String longest = "r30;".repeat(30);
        PieceSwarm y = swarm(8, 4, "H1 L4 M1 H2 H1 L1", "00 31");
        type(y, longest);
        for (int k = 1; k <= 360; k++) {
            due("all orders", 30, y.does());
        }
        due("T by texts", 360 * 900, y.count(3));
    }
}
