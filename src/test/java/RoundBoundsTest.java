/**
 * A round from (a) to (e), and the drawing: what happens where there are fewer, none or like ones, at a bound and
 * just beside it. One method for each sentence; all answers were worked out by hand.
 * What is drawn at first: 16838, 5758, 10113, 17515, 31051, 5627, 23010.
 */
public final class RoundBoundsTest extends Checks {
    public static void main(String[] args) {
        drawingWrapsAround();
        drawnByEachNumber();
        aLiarWantsNothing();
        nobodyWantsOfItself();
        wantsBarredNeitherWay();
        wantsOnePieceMore();
        slotsOpen();
        theLeastOpensFirst();
        fewerThanSlots();
        ofLikeWorthTheLeast();
        theGreatestWorth();
        worthOfOneThatHasAll();
        worthOfALiar();
        luckyStaysWithinThePeriod();
        luckyNoneAtFirst();
        luckyThatWantsNoMore();
        luckyThatIsRegular();
        luckyOfNone();
        luckyOfOne();
        aMiserOpensToNobody();
        asksForOneBlock();
        freeBlocks();
        startedFirst();
        startedOnesAmongThemselves();
        startedByAsking();
        fewestCopies();
        leastFreeBlock();
        endgameAtItsBound();
        endgameAboveEight();
        endgameLeastPiece();
        endgameBlockNotGot();
        cancelledIfItHasThePiece();
        cancelledIfItGotTheBlock();
        capSends();
        sendsToOneThatBarsIt();
        lookedAtAsSoonAsWhole();
        droppedWithin();
        droppedIsAskedForAgain();
        barredIfAllCameFromIt();
        barredIfSuspectedTwice();
        fadeAtItsBounds();
        ratesCountDroppedOnes();
        turnIsOneMore();
        wholeIsClaimedNextRound();
        endWithExitCode();
    }

    /** Misers want but never open, so that the seed alone draws. */
    private static PieceSwarm misersAndSeed(int misers) {
        PieceSwarm x = new PieceSwarm();
        x.begins(8, 4);
        for (int i = 0; i < misers; i++) {
            x.peer(1, 1);
        }
        x.peer(0, 4);
        giveAll(x, misers);
        return x;
    }

    // ---- the drawing

    private static void drawingWrapsAround() {
        says("X (1 at first) becomes (X * 1103515245L + 12345L) % 2147483648L; what is drawn by n: X / 65536 % n");
        int[] first = {16838, 5758, 10113, 17515, 31051, 5627, 23010, 7419, 16212, 4086};
        PieceSwarm x = misersAndSeed(5);
        x.sets(0, 1);
        x.sets(3, 1);
        long drawing = 1;
        for (int k = 0; k < 40; k++) {
            x.rounds(1);
            drawing = nextDrawing(drawing);
            if (k < first.length) {
                due("drawn", first[k], drawing / 65536);
            }
            due("round " + k, drawing / 65536 % 5, x.of(5, 5));
        }
    }

    private static void drawnByEachNumber() {
        says("n of them, the one number (what is drawn by n) of them is, counted from the least on, 0 first");
        int[] due = {0, 0, 2, 2, 3};
        for (int misers = 1; misers <= 5; misers++) {
            PieceSwarm x = misersAndSeed(misers);
            x.sets(0, 1);
            x.rounds(1);
            due("by " + misers, due[misers - 1], x.of(misers, 5));
        }
    }

    // ---- (a)

    private static void aLiarWantsNothing() {
        says("j WANTS of i, if j is no LIAR");
        String[] others = {"H1", "M1", "L1"};
        for (int kind = 0; kind < 3; kind++) {
            PieceSwarm x = swarm(1, 1, "H1 " + others[kind], "00");
            x.rounds(1);
            due("opened to kind " + kind, kind == 2 ? 0 : 2, x.of(0, 4));
            due("got by kind " + kind, kind == 2 ? 0 : 1, x.of(1, 8));
        }
        PieceSwarm y = swarm(2, 2, "L4 L4", "");
        y.rounds(5);
        due("two liars", 0, y.count(4) + y.of(0, 4) + y.of(1, 4));
    }

    private static void nobodyWantsOfItself() {
        says("i is another PEER");
        PieceSwarm x = swarm(2, 1, "H4 L4 H4", "00 21");
        x.sets(0, 4);
        for (int t = 0; t < 4; t++) {
            x.rounds(1);
            for (int i = 0; i < 3; i++) {
                due("open to itself", 0, x.of(i, 4) >> i & 1);
            }
        }
        PieceSwarm y = swarm(2, 1, "H4", "00");
        y.rounds(3);
        due("alone", 0, y.of(0, 4) + y.count(4));
        due("alone, no lucky one", NONE, y.of(0, 5));
    }

    private static void wantsBarredNeitherWay() {
        says("neither BARS the other one");
        // 2 gets a true and a false block of piece 0 together, twice, so it bars the honest 1, too.
        PieceSwarm x = swarm(2, 2, "L4 H4 H4", "10 11 21");
        x.rounds(1);
        due("suspected once: not barred", 0, x.of(2, 6));
        x.rounds(1);
        due("barred", 3, x.of(2, 6));
        due("it opened yet", 4, x.of(1, 4));
        due("1 bars nobody", 0, x.of(1, 6));
        x.rounds(1);
        due("one that is barred opens not", 0, x.of(1, 4));
        due("nor the liar", 0, x.of(0, 4));
        // The other way: 1 lacks piece 1 and bars nobody, 2 has it and bars 1.
        PieceSwarm y = swarm(2, 2, "L4 H4 H4 M1", "10 31");
        y.sets(0, 4);
        y.rounds(2);
        due("2 bars 0 and 1", 3, y.of(2, 6));
        due("1 bars 0 alone", 1, y.of(1, 6));
        y.gives(2, 1);
        y.rounds(1);
        due("one that bars opens not to 1, but to the miser", 0, y.of(2, 4) >> 1 & 1);
        due("1 got nothing of 2", 0, y.rate(1, 2));
    }

    private static void wantsOnePieceMore() {
        says("i CLAIMS a PIECE that j has not");
        PieceSwarm x = swarm(8, 1, "H1 H1", "00 10");
        x.rounds(1);
        due("the same pieces", 0, x.of(0, 4) + x.of(1, 4));
        x.gives(0, 7);
        x.rounds(1);
        due("one piece more", 2, x.of(0, 4));
        due("one piece less", 0, x.of(1, 4));
        due("it came", 129, x.of(1, 2));
        giveAll(x, 0);
        for (int n = 0; n < 7; n++) {
            x.gives(1, n);
        }
        x.rounds(1);
        due("both have all", 0, x.of(0, 4) + x.of(1, 4));
        PieceSwarm y = swarm(8, 1, "H1 H1", "00 01 02 03 04 05 06 07 10 11 12 13 14 15 16");
        y.rounds(1);
        due("all but one", 2, y.of(0, 4));
    }

    // ---- (b)

    private static void slotsOpen() {
        says("REGULAR: of those that WANT of i the SLOTS - 1 of the greatest WORTH");
        int[] opened = {8, 1 | 8, 1 | 2 | 16, 1 | 2 | 4 | 8};
        int[] lucky = {3, 3, 4, 3};
        for (int slots = 1; slots <= 4; slots++) {
            PieceSwarm x = misersAndSeed(5);
            x.sets(0, slots);
            x.rounds(1);
            due("opened with slots " + slots, opened[slots - 1], x.of(5, 4));
            due("lucky with slots " + slots, lucky[slots - 1], x.of(5, 5));
        }
    }

    private static void theLeastOpensFirst() {
        says("Each PEER i, the least first");
        PieceSwarm x = swarm(1, 4, "H4 H4 L4 M1 M1 M1", "00 10");
        x.sets(0, 1);
        x.rounds(1);
        // Drawn by 3 are 2, 1 and 0.
        due("0 draws first", 5, x.of(0, 5));
        due("then 1", 4, x.of(1, 5));
        due("then 2", 3, x.of(2, 5));
    }

    private static void fewerThanSlots() {
        says("(fewer, if there are fewer;");
        for (int misers = 1; misers <= 4; misers++) {
            PieceSwarm x = misersAndSeed(misers);
            x.sets(0, 4);
            x.rounds(1);
            due("all are open", (1 << misers) - 1, x.of(misers, 4));
            due("lucky is the fourth", misers == 4 ? 3 : NONE, x.of(misers, 5));
        }
    }

    private static void ofLikeWorthTheLeast() {
        says("of like WORTH the least)");
        PieceSwarm x = misersAndSeed(4);
        x.sets(0, 3);
        x.rounds(1);
        due("like at 0: regular 0 and 1, lucky 2", 7, x.of(4, 4));
        PieceSwarm y = misersAndSeed(4);
        y.sets(0, 4);
        y.rounds(1);
        due("all got one", bits(1f), y.rate(3, 4));
        y.sets(0, 2);
        y.sets(3, 1);
        y.rounds(1);
        // 5758 % 3 is 1: of 1, 2 and 3 it is 2.
        due("like at 1: regular 0, lucky 2", 5, y.of(4, 4));
        due("lucky", 2, y.of(4, 5));
    }

    private static void theGreatestWorth() {
        says("of the greatest WORTH");
        // Drawn by 3 are 2, 1, 0, 1: the rates are 0.5, 1.25 and 0.125.
        PieceSwarm x = misersAndSeed(3);
        x.sets(0, 1);
        x.sets(3, 1);
        x.rounds(4);
        due("rate of 0", bits(0.5f), x.rate(0, 3));
        due("rate of 1", bits(1.25f), x.rate(1, 3));
        due("rate of 2", bits(0.125f), x.rate(2, 3));
        x.sets(0, 2);
        x.rounds(1);
        // 31051 % 2 is 1: of 0 and 2 it is 2.
        due("regular 1, lucky 2", 6, x.of(3, 4));
        x.back();
        x.sets(0, 3);
        x.rounds(1);
        due("regular 1 and 0, lucky 2", 7, x.of(3, 4));
        due("lucky", 2, x.of(3, 5));
    }

    private static void worthOfOneThatHasAll() {
        says("if i HAS all PIECES or is a LIAR, RATE of j from i, else RATE of i from j");
        for (int given = 0; given <= 1; given++) {
            // By their caps 1 took from 0, and 2 gave to 0; both want of 0 then.
            PieceSwarm x = swarm(3, 1, "H1 H1 H1", "00 21");
            x.rounds(1);
            due("1 took", bits(1f), x.rate(1, 0));
            due("2 gave", bits(1f), x.rate(0, 2));
            due("2 took nothing", 0, x.rate(2, 0));
            due("1 gave nothing", 0, x.rate(0, 1));
            due("lucky was 2", 2, x.of(0, 5));
            if (given == 1) {
                x.gives(0, 2);
            }
            x.rounds(1);
            due("both are open", 6, x.of(0, 4));
            due(given == 1 ? "has all: 1 is regular" : "lacks one: 2 is regular", given == 1 ? 2 : 1, x.of(0, 5));
        }
    }

    private static void worthOfALiar() {
        says("or is a LIAR, RATE of j from i");
        PieceSwarm x = swarm(2, 2, "L1 M1 M1 M1", "");
        x.sets(0, 1);
        x.rounds(1);
        due("lucky is 3", 3, x.of(0, 5));
        due("3 took", bits(1f), x.rate(3, 0));
        x.sets(0, 2);
        x.rounds(1);
        // 3 is regular now, so another one is drawn: 5758 % 2 is 0, of 1 and 2 it is 1.
        due("opened", 10, x.of(0, 4));
        due("lucky is 1", 1, x.of(0, 5));
    }

    private static void luckyStaysWithinThePeriod() {
        says("it stays, if T % PERIOD is not 0");
        for (int period = 1; period <= 9; period++) {
            PieceSwarm x = misersAndSeed(3);
            x.sets(0, 1);
            x.sets(3, period);
            long drawing = 1;
            for (int t = 0; t < 20; t++) {
                if (t % period == 0) {
                    drawing = nextDrawing(drawing);
                }
                x.rounds(1);
                due("period " + period + ", T " + t, drawing / 65536 % 3, x.of(3, 5));
            }
        }
    }

    private static void luckyNoneAtFirst() {
        says("LUCKY of i (none at first)");
        PieceSwarm x = new PieceSwarm();
        x.rounds(1);
        for (int i = 0; i < 4; i++) {
            x.peer(i == 3 ? 0 : 1, 1);
        }
        giveAll(x, 3);
        x.sets(0, 1);
        x.rounds(1);
        due("T % PERIOD is 1, but there was none", 2, x.of(3, 5));
        x.rounds(1);
        due("T % PERIOD is 2: it stays", 2, x.of(3, 5));
        x.rounds(1);
        due("T % PERIOD is 0: 5758 % 3", 1, x.of(3, 5));
    }

    private static void luckyThatWantsNoMore() {
        says("it WANTS of i, and");
        PieceSwarm x = misersAndSeed(3);
        x.sets(0, 1);
        x.sets(3, 9);
        x.rounds(1);
        due("by 3", 2, x.of(3, 5));
        for (int n = 0; n < 7; n++) {
            x.gives(2, n);
        }
        x.rounds(1);
        due("it wants one piece yet", 2, x.of(3, 5));
        x.gives(2, 7);
        x.rounds(1);
        due("it wants no more, by 2", 0, x.of(3, 5));
        due("open to the new one alone", 1, x.of(3, 4));
        giveAll(x, 0);
        x.rounds(1);
        due("by 1", 1, x.of(3, 5));
        x.rounds(1);
        due("that one stays", 1, x.of(3, 5));
    }

    private static void luckyThatIsRegular() {
        says("and is not REGULAR; else");
        PieceSwarm x = misersAndSeed(3);
        x.sets(0, 1);
        x.rounds(1);
        due("lucky", 2, x.of(3, 5));
        x.sets(0, 2);
        x.rounds(1);
        // 2 has the greatest worth; 5758 % 2 is 0, of 0 and 1 it is 0.
        due("regular 2, lucky 0", 5, x.of(3, 4));
        due("lucky is another", 0, x.of(3, 5));
        x.rounds(1);
        due("it is not regular: it stays", 0, x.of(3, 5));
    }

    private static void luckyOfNone() {
        says("else none is (nothing is drawn)");
        PieceSwarm x = misersAndSeed(3);
        x.sets(0, 4);
        x.rounds(3);
        due("all are regular", NONE, x.of(3, 5));
        due("open to them", 7, x.of(3, 4));
        x.sets(0, 1);
        x.rounds(1);
        // The first one that is drawn; the fourth would be 1.
        due("nothing was drawn", 2, x.of(3, 5));
        PieceSwarm y = misersAndSeed(3);
        y.sets(0, 1);
        y.rounds(1);
        for (int i = 0; i < 3; i++) {
            giveAll(y, i);
        }
        y.rounds(1);
        due("nobody wants", NONE, y.of(3, 5));
        due("open to nobody", 0, y.of(3, 4));
        y.rounds(1);
        y.peer(1, 1);
        y.peer(1, 1);
        y.rounds(1);
        // 5758 % 2 is 0, of 4 and 5 it is 4; the fourth one drawn would be 5.
        due("nothing was drawn for none", 4, y.of(3, 5));
    }

    private static void luckyOfOne() {
        says("if any that WANT of i are not REGULAR, n of them");
        PieceSwarm x = misersAndSeed(4);
        x.sets(0, 4);
        x.sets(3, 1);
        x.rounds(2);
        due("number 0 of one", 3, x.of(4, 5));
        x.sets(0, 1);
        x.rounds(1);
        // By one is drawn, too: this is the third, 10113 % 4; the first would be 2.
        due("the third", 1, x.of(4, 5));
    }

    private static void aMiserOpensToNobody() {
        says("Each PEER i .. that is no MISER OPENS to some PEERS .. (A MISER has no LUCKY.)");
        PieceSwarm x = swarm(1, 1, "M4 H4 M4", "00");
        for (int t = 0; t < 4; t++) {
            x.rounds(1);
            due("open", 0, x.of(0, 4));
            due("lucky", NONE, x.of(0, 5));
        }
        due("sent", 0, x.count(4));
        x.gives(1, 0);
        x.rounds(1);
        due("an honest one opens to a miser", 4, x.of(1, 4));
        due("a miser gets", 1, x.of(2, 2));
    }

    // ---- (c)

    private static void asksForOneBlock() {
        says("asks each PEER i that OPENS to it, the least first, for one BLOCK");
        PieceSwarm x = swarm(2, 4, "H4 M1", "00 01");
        for (int t = 1; t <= 8; t++) {
            x.rounds(1);
            due("one each round", t, x.of(1, 8));
        }
        PieceSwarm y = swarm(2, 4, "H4 H4 H4 M1", "00 10 20");
        y.rounds(1);
        for (int i = 0; i < 3; i++) {
            due("the least peer for the least block", i, y.block(3, 0, i));
        }
        due("no fourth", NONE, y.block(3, 0, 3));
    }

    private static void freeBlocks() {
        says("of which a BLOCK is FREE (j has not GOT it and has not asked for it in this ROUND)");
        PieceSwarm x = swarm(2, 1, "H1 H1 M1", "00 01 10 11");
        x.sets(2, 0);
        x.rounds(1);
        due("each asked for another one", 3, x.of(2, 2));
        // One block in all: the second seed is not asked.
        PieceSwarm y = swarm(1, 1, "H1 H1 M1", "00 10");
        y.sets(2, 0);
        y.rounds(1);
        due("sent", 1, y.count(4));
        due("not cancelled: not asked", 0, y.count(6));
        // What was asked for in vain is free in the next round.
        PieceSwarm z = swarm(1, 1, "H1 M1 M1", "00");
        z.rounds(1);
        due("in vain", 0, z.of(2, 2));
        z.rounds(1);
        due("asked for again", 1, z.of(2, 2));
    }

    private static void startedFirst() {
        says("those STARTED first (j GOT a BLOCK of it");
        PieceSwarm x = swarm(3, 2, "H1 M1 M1", "00 01 02 20 21");
        x.rounds(1);
        due("the rarest", 0, x.block(1, 2, 0));
        x.peer(1, 1);
        x.gives(2, 2);
        x.gives(3, 2);
        due("now piece 2 is the most common", 0, x.rarest());
        due("copies", 3, x.copies(2));
        x.rounds(1);
        due("the started one is whole", 4, x.of(1, 2));
        x.rounds(1);
        due("then the rarest", 0, x.block(1, 0, 0));
    }

    private static void startedOnesAmongThemselves() {
        says("those STARTED first .. then those with the fewest COPIES, then the least");
        // 0 and 1 have one piece each, so that 2 starts both; then 3 has all, and perhaps 4 makes one more common.
        String[] what = {"like ones: the least", "piece 0 is more common", "piece 1 is more common"};
        for (int k = 0; k < 3; k++) {
            PieceSwarm x = swarm(3, 3, "H4 H4 M1 H4 M1", "00 11");
            x.sets(0, 4);
            x.sets(2, 0);
            x.rounds(1);
            due("piece 0 is started", 0, x.block(2, 0, 0));
            due("piece 1 is started", 1, x.block(2, 1, 0));
            giveAll(x, 3);
            if (k > 0) {
                x.gives(4, k - 1);
            }
            x.rounds(1);
            due(what[k], k == 1 ? 2 : 1, x.of(2, 2));
        }
    }

    private static void startedByAsking() {
        says("or asked for one in this ROUND)");
        PieceSwarm x = swarm(2, 2, "H1 H1 M1", "00 01 10 11");
        x.sets(2, 0);
        x.rounds(1);
        due("both blocks of one piece", 1, x.of(2, 2));
        due("none of the other one", NONE, x.block(2, 1, 0));
        // 0 has piece 1 alone, so that is started by asking; 1 has both, and piece 0 is as rare, and less.
        PieceSwarm y = swarm(2, 2, "H4 H4 M1 M1", "01 10 11 30");
        y.sets(2, 0);
        y.sets(0, 4);
        due("both as rare", y.copies(0), y.copies(1));
        y.rounds(1);
        due("started by asking", 2, y.of(2, 2));
    }

    private static void fewestCopies() {
        says("then those with the fewest COPIES, then the least");
        PieceSwarm x = swarm(3, 1, "H1 M1 M1", "00 01 02 20 21");
        x.rounds(1);
        due("one copy ahead of two", 4, x.of(1, 2));
        PieceSwarm y = swarm(3, 1, "H1 M1 M1", "00 01 02 20");
        y.rounds(1);
        due("of like ones the least", 2, y.of(1, 2));
        y.rounds(1);
        due("then piece 2: it has one copy", 6, y.of(1, 2));
    }

    private static void leastFreeBlock() {
        says("of it the least FREE BLOCK");
        PieceSwarm x = swarm(1, 4, "H1 M1", "00");
        for (int b = 0; b < 4; b++) {
            for (int c = 0; c < 4; c++) {
                due("block " + c + " ahead of round " + b, c < b ? 0 : NONE, x.block(1, 0, c));
            }
            x.rounds(1);
        }
        due("whole", 1, x.of(1, 2));
    }

    private static void endgameAtItsBound() {
        says("If there is no such PIECE: none, but if LEFT of j is ENDGAME or less");
        for (int endgame = 0; endgame <= 8; endgame++) {
            for (int left = 1; left <= 8; left++) {
                // Both seeds have piece 0 alone: the second one is asked for it at the end only.
                PieceSwarm x = swarm(8, 1, "H1 H1 M1", "00 10");
                x.sets(2, endgame);
                for (int n = 7; n >= left; n--) {
                    x.gives(2, n);
                }
                due("left", left, x.of(2, 3));
                x.rounds(1);
                String what = "endgame " + endgame + ", left " + left;
                due(what + ": asked twice and cancelled", left <= endgame ? 1 : 0, x.count(6));
                due(what + ": sent once", 1, x.count(4));
            }
        }
    }

    private static void endgameAboveEight() {
        says("ENDGAME (0 .. 8");
        for (int given = 0; given <= 1; given++) {
            // Nine blocks are left, or six; the fourth seed finds no free block of piece 0.
            PieceSwarm x = swarm(3, 3, "H1 H1 H1 H1 M1", "00 10 20 30");
            x.sets(2, 8);
            if (given == 1) {
                x.gives(4, 2);
            }
            x.rounds(1);
            due("cancelled with " + (given == 1 ? 6 : 9) + " left", given, x.count(6));
            due("whole", 1, x.of(4, 2) & 1);
        }
    }

    private static void endgameLeastPiece() {
        says("the least PIECE that i CLAIMS, j has not, with a BLOCK that j has not GOT");
        // 1 and 2 can send to 0 alone; 3 asks 4 for piece 0 once more, which it did not get from 1.
        PieceSwarm x = swarm(2, 1, "M1 H1 H1 M1 H1", "10 11 20 21 40 41");
        x.rounds(1);
        due("0 has both", 3, x.of(0, 2));
        due("3 has the least", 1, x.of(3, 2));
        due("it came from 4", bits(1f), x.rate(3, 4));
        due("what 0 asked of 4 was cancelled", 1, x.count(6));
        // If 4 claims piece 1 alone, that is the least.
        PieceSwarm y = swarm(2, 1, "M1 H1 H1 M1 H1", "10 11 20 21 41");
        y.sets(0, 4);
        y.rounds(1);
        due("3 has piece 1", 2, y.of(3, 2) & 2);
        due("it came from 4", bits(1f), y.rate(3, 4));
    }

    private static void endgameBlockNotGot() {
        says("of it the least such BLOCK (which it asked for elsewhere)");
        // Drawn by 2 are 0, 0, 1: the miser 0 has blocks 0 and 1, the miser 1 has block 0.
        PieceSwarm x = swarm(1, 4, "M1 M1 H1", "20");
        x.sets(0, 1);
        x.sets(3, 1);
        x.rounds(3);
        due("0 has two", 2, x.block(0, 0, 1));
        due("1 has one", 2, x.block(1, 0, 0));
        due("1 lacks three", 3, x.of(1, 3));
        x.sets(0, 4);
        x.sets(2, 3);
        for (int i = 3; i <= 5; i++) {
            x.peer(0, 1);
            x.gives(i, 0);
        }
        x.rounds(1);
        // 1 asks 2, 3, 4 for blocks 1, 2, 3 and 5 for 1 again; 2 and 3 send to 0, which is whole then.
        due("0 is whole", 1, x.of(0, 2));
        due("block 1 comes from 5", 5, x.block(1, 0, 1));
        due("block 2 comes not", NONE, x.block(1, 0, 2));
        due("block 3 comes from 4", 4, x.block(1, 0, 3));
        due("cancelled are two that 0 asked for", 2, x.count(6));
    }

    // ---- (d)

    private static void cancelledIfItHasThePiece() {
        says("if j HAS the PIECE meanwhile");
        PieceSwarm x = swarm(1, 1, "H4 H4 H4 M1", "00 10 20");
        x.rounds(1);
        due("asked thrice, twice cancelled", 2, x.count(6));
        due("sent once", 1, x.count(4));
        due("got once", 1, x.of(3, 8));
        due("from the least", bits(1f), x.rate(3, 0));
        due("not from the others", 0, x.rate(3, 1) + x.rate(3, 2));
    }

    private static void cancelledIfItGotTheBlock() {
        says("or GOT the BLOCK meanwhile, it is CANCELLED");
        // 1 cannot send to the last miser: it asks 0, 1, 2 for the blocks 0, 1 and, once more, 0.
        PieceSwarm x = swarm(1, 2, "H4 H1 H4 M1 M1", "00 10 20");
        x.rounds(1);
        due("3 is whole", 1, x.of(3, 2));
        due("4 got block 0", 0, x.block(4, 0, 0));
        due("4 lacks block 1", NONE, x.block(4, 0, 1));
        due("cancelled: 3 has the piece, 4 got the block", 2, x.count(6));
        due("2 sent nothing", 0, x.of(2, 7));
    }

    private static void capSends() {
        says("if i sent fewer than CAP BLOCKS in this ROUND, it sends it .. else nothing comes");
        for (int cap = 1; cap <= 4; cap++) {
            PieceSwarm x = swarm(8, 4, "M1 M1 M1 M1 H" + cap, "40");
            x.sets(0, 4);
            x.rounds(1);
            due("all are open", 15, x.of(4, 4));
            for (int j = 0; j < 4; j++) {
                due("cap " + cap + ", asked by " + j, j < cap ? 1 : 0, x.of(j, 8));
            }
            due("nothing is cancelled", 0, x.count(6));
            x.rounds(1);
            due("as many in the next round", 2 * cap, x.of(4, 7));
        }
        // A cancelled one is not sent: 4 has a cap of 1, what 0 asks it for is cancelled, so 3 gets its block.
        PieceSwarm y = swarm(2, 1, "M1 H1 H1 M1 H1", "10 11 20 21 40 41");
        y.rounds(1);
        due("sent in spite of a cancelled one", 1, y.of(4, 7));
    }

    private static void sendsToOneThatBarsIt() {
        says("(also to one that BARS it since)");
        PieceSwarm x = swarm(2, 2, "H4 H4 L4", "");
        x.sets(0, 4);
        x.sets(2, 0);
        x.rounds(1);
        x.gives(0, 0);
        x.rounds(1);
        due("0 and 2 are suspected once", 11, 10 * x.suspects(1, 0) + x.suspects(1, 2));
        due("a false block of piece 1", 2, x.block(1, 1, 0));
        x.gives(0, 1);
        x.rounds(1);
        due("twice, by the block that 0 sent", 22, 10 * x.suspects(1, 0) + x.suspects(1, 2));
        due("barred", 5, x.of(1, 6));
        due("2 sent to it behind that", 2, x.block(1, 0, 0));
        due("blocks sent by 2", 5, x.of(2, 7));
        due("rates count it", bits(1.75f), x.rate(1, 2));
        x.rounds(1);
        due("no more then", 5, x.of(2, 7));
    }

    private static void lookedAtAsSoonAsWhole() {
        says("As soon as all BLOCKS of a PIECE are GOT by j it is looked at: if all are true, j HAS it");
        for (int b = 1; b <= 4; b++) {
            PieceSwarm x = swarm(1, b, "H1 M1", "00");
            for (int t = 1; t <= b; t++) {
                due("not yet", 0, x.of(1, 2));
                x.rounds(1);
            }
            due("whole with " + b, 1, x.of(1, 2));
            due("got no more, but whole", 100, x.block(1, 0, b - 1));
            due("nothing left", 0, x.of(1, 3));
        }
    }

    private static void droppedWithin() {
        says("else it is DROPPED: none of its BLOCKS is GOT any more");
        for (int b = 1; b <= 4; b++) {
            PieceSwarm x = swarm(1, b, "L1 M1", "");
            for (int t = 1; t <= b; t++) {
                due("not yet", 0, x.count(7));
                x.rounds(1);
            }
            due("dropped with " + b, 1, x.count(7));
            due("none", NONE, x.block(1, 0, b - 1));
            due("none at all", NONE, x.block(1, 0, 0));
            due("has", 0, x.of(1, 2));
            due("left", b, x.of(1, 3));
            due("got so far, dropped ones, too", b, x.of(1, 8));
        }
    }

    private static void droppedIsAskedForAgain() {
        says("else it is DROPPED .. if i sent fewer than CAP BLOCKS in this ROUND, it sends it");
        // What 1 asked the liar for at first, and 2 once more, is free again when it is 2's turn.
        PieceSwarm x = swarm(1, 1, "L1 M1 H1", "20");
        x.rounds(1);
        due("dropped", 1, x.count(7));
        due("not cancelled", 0, x.count(6));
        due("has it", 1, x.of(1, 2));
        due("got two", 2, x.of(1, 8));
        due("a true one", bits(1f), x.rate(1, 2));
        due("2 is not suspected", 0, x.suspects(1, 2));
    }

    private static void barredIfAllCameFromIt() {
        says("j BARS it, if all came from it");
        for (int b = 1; b <= 4; b++) {
            PieceSwarm x = swarm(1, b, "L1 M1", "");
            x.rounds(b);
            due("suspected once", 1, x.suspects(1, 0));
            due("barred", 1, x.of(1, 6));
            due("not the other way", 0, x.suspects(0, 1) + x.of(0, 6));
        }
        PieceSwarm y = swarm(1, 2, "L1 L1 M1", "");
        y.rounds(1);
        due("two liars together: suspected", 11, 10 * y.suspects(2, 0) + y.suspects(2, 1));
        due("not barred", 0, y.of(2, 6));
        due("dropped once", 1, y.count(7));
    }

    private static void barredIfSuspectedTwice() {
        says("or it is suspected twice or more now");
        PieceSwarm x = swarm(1, 4, "L1 H1 L1 M1", "10");
        x.rounds(1);
        due("not whole yet", 0, x.count(7));
        x.rounds(1);
        due("dropped", 1, x.count(7));
        due("each once, however many came from it", 111,
                100 * x.suspects(3, 0) + 10 * x.suspects(3, 1) + x.suspects(3, 2));
        due("not barred yet", 0, x.of(3, 6));
        // What 1 and 2 were asked for in vain, or again, is free behind the drop.
        x.rounds(2);
        due("dropped again", 2, x.count(7));
        due("suspected twice", 2, x.suspects(3, 0));
        due("barred", 7, x.of(3, 6));
        due("pairs", 3, x.count(8));
    }

    // ---- (e)

    private static void fadeAtItsBounds() {
        says("RATE of each j from each other i becomes RATE * (FADE / 10f) + n");
        for (int fade : new int[] {0, 1, 3, 7, 9}) {
            PieceSwarm x = swarm(1, 4, "H1 M1", "00");
            x.sets(1, fade);
            float rate = 0f;
            for (int t = 0; t < 8; t++) {
                x.rounds(1);
                rate = rate * (fade / 10f) + (t < 4 ? 1f : 0f);
                due("fade " + fade + ", T " + t, bits(rate), x.rate(1, 0));
                due("the other way", 0, x.rate(0, 1));
            }
        }
        PieceSwarm y = swarm(1, 1, "H1 M1", "00");
        y.sets(1, 0);
        y.rounds(1);
        due("one came", bits(1f), y.rate(1, 0));
        y.rounds(1);
        due("all is forgotten", 0, y.rate(1, 0));
        // Down through the smallest floats to nothing.
        PieceSwarm z = swarm(1, 1, "H1 M1", "00");
        z.rounds(1);
        float half = 1f;
        for (int t = 0; t < 152; t++) {
            due("halved so often: " + t, bits(half), z.rate(1, 0));
            z.rounds(1);
            half = half * (5 / 10f);
        }
        due("nothing", 0, z.rate(1, 0));
    }

    private static void ratesCountDroppedOnes() {
        says("how many BLOCKS j GOT from i in this ROUND (DROPPED ones, too)");
        PieceSwarm x = swarm(1, 1, "L1 M1", "");
        x.rounds(1);
        due("dropped", 1, x.count(7));
        due("counted", bits(1f), x.rate(1, 0));
        x.rounds(1);
        due("nothing more", bits(0.5f), x.rate(1, 0));
        // What was asked for and cancelled counts for nothing.
        PieceSwarm y = swarm(1, 1, "H1 H1 M1", "00 10");
        y.rounds(1);
        due("cancelled", 1, y.count(6));
        due("not counted", 0, y.rate(2, 1));
    }

    private static void turnIsOneMore() {
        says("A ROUND, number T (0, 1, ..) .. T is one more");
        PieceSwarm x = new PieceSwarm();
        due("at first", 0, x.count(3));
        for (int t = 1; t <= 40; t++) {
            due("T", t, x.rounds(1));
        }
        due("then", 40, x.count(3));
    }

    private static void wholeIsClaimedNextRound() {
        says("what became WHOLE in (d) is CLAIMED from the next ROUND's (a) on");
        PieceSwarm x = swarm(1, 1, "H1 H1 H1", "00");
        x.sets(0, 1);
        x.rounds(1);
        due("1 is whole", 1, x.of(1, 2));
        due("2 got nothing of it yet", 0, x.of(2, 8));
        due("1 opened to nobody", 0, x.of(1, 4));
        due("it is claimed now", 2, x.copies(0));
        x.rounds(1);
        due("1 opened to 2", 4, x.of(1, 4));
        due("2 is whole", 1, x.of(2, 2));
    }
}
