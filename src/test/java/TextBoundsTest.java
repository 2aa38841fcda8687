import java.util.ArrayList;
import java.util.List;

/**
 * The text and its faults, the states, and what a refused call leaves: promises 18 to 22 at their bounds.
 * One method for each sentence.
 */
public final class TextBoundsTest extends Checks {
    /** A call without numbers to look at. */
    private interface Deed {
        int on(PieceSwarm x);
    }

    public static void main(String[] args) {
        bytesOfType();
        aFullText();
        clearTellsHowMany();
        ordersAndTheirEnds();
        numbersOfOneOrTwoFigures();
        aThirdFigure();
        blanksAnywhereButWithin();
        blanksNeeded();
        otherBytes();
        endsTooEarly();
        anEmptyText();
        faultsAtEachPlace();
        nothingIsDoneByAFault();
        readWholeFirst();
        passedOverAsPeer();
        passedOverAsGives();
        passedOverAsRounds();
        passedOverAsSets();
        passedOverThen();
        passedOverCountsNothing();
        theTextStays();
        oneStateForAll();
        theLongestTexts();
        eachCallToldLeavesAState();
        aStateThoughNothingBecomesOther();
        othersLeaveNone();
        fiveStatesAtMost();
        backWithNone();
        backTakesAllButTextAndRefused();
        backTakesSendersBack();
        backTakesADrawingBack();
        backOverBegins();
        theFirstOfBadNoFull();
        refusedOnesLeaveNothingHidden();
        endWithExitCode();
    }

    private static int does(PieceSwarm x, String text) {
        type(x, text);
        return x.does();
    }

    private static void fault(String text, int place) {
        PieceSwarm x = new PieceSwarm();
        type(x, text);
        changesNothing("fault of '" + text + "'", x, -10 - place, x::does);
    }

    private static void fine(String text, int orders) {
        PieceSwarm x = new PieceSwarm();
        type(x, text);
        leavesState("no fault in '" + text + "'", x, orders, x::does);
    }

    // ---- the text

    private static void bytesOfType() {
        says("A byte (0 .. 127) comes behind THE TEXT: how many it has. BAD");
        for (int c : new int[] {-1, 128, -128, 255, 256, 287, Integer.MIN_VALUE, Integer.MAX_VALUE}) {
            PieceSwarm x = new PieceSwarm();
            x.type(65);
            refused("no byte " + c, x, BAD, () -> x.type(c));
        }
        PieceSwarm x = new PieceSwarm();
        for (int c = 0; c < 120; c++) {
            due("byte " + c, c + 1, x.type(c));
        }
        x.clear();
        for (int c = 120; c <= 127; c++) {
            due("byte " + c, c - 119, x.type(c));
        }
        due("none is refused", 0, x.told(0) + x.told(1) + x.told(2));
        due("no state", 0, x.told(8));
    }

    private static void aFullText() {
        says("FULL: 120");
        PieceSwarm x = new PieceSwarm();
        type(x, "r1;".repeat(39) + "r1");
        due("119", 119, x.told(7));
        due("the last byte", 120, x.type(';'));
        refused("one more", x, FULL, () -> x.type(';'));
        refused("one more that is no byte", x, BAD, () -> x.type(128));
        refused("one more that is no byte", x, BAD, () -> x.type(-1));
        due("the text is as it was", 40, x.does());
    }

    private static void clearTellsHowMany() {
        says("THE TEXT is empty: how many it had");
        for (int many : new int[] {0, 1, 119, 120}) {
            PieceSwarm x = new PieceSwarm();
            type(x, " ".repeat(many));
            due("how many", many, x.clear());
            due("empty", 0, x.told(7));
            due("empty again", 0, x.clear());
            due("a fault at its length", -10, x.does());
            due("no state", 0, x.told(8));
            due("the first byte", 1, x.type('r'));
        }
    }

    private static void ordersAndTheirEnds() {
        says("ORDERS, each ended by ; : p k c (as peer), g i n (as gives), r n (as rounds), s w v (as sets)");
        PieceSwarm x = new PieceSwarm();
        due("p", 1, does(x, "p 1 3;"));
        due("its kind", 1, x.of(0, 0));
        due("its cap", 3, x.of(0, 1));
        due("g", 1, does(x, "g 0 2;"));
        due("the piece", 4, x.of(0, 2));
        due("r", 1, does(x, "r 7;"));
        due("T", 7, x.count(3));
        due("s", 1, does(x, "s 3 9;"));
        due("the period", 9, x.told(6));
        fine("r1;p0 1;g0 0;s0 1;", 4);
        fault("r1", 2);
        fault("r1;;", 3);
        fault(";r1;", 0);
        fault("p0;", 2);
        fault("p;", 1);
        fault("r;", 1);
        fault("s 1 2 3;", 6);
        fault("r 1 2;", 4);
    }

    private static void numbersOfOneOrTwoFigures() {
        says("Numbers have 1 or 2 figures");
        for (int n = 0; n <= 99; n++) {
            PieceSwarm x = new PieceSwarm();
            due("r " + n, n >= 1 && n <= 30 ? 1 : 0, does(x, "r" + n + ";"));
            due("T", n >= 1 && n <= 30 ? n : 0, x.count(3));
        }
        PieceSwarm y = new PieceSwarm();
        due("with a nought ahead", 3, does(y, "p00 04;g00 03;s01 09;"));
        due("the cap", 4, y.of(0, 1));
        due("the piece", 8, y.of(0, 2));
        due("the fade", 9, y.told(4));
        due("two noughts", 1, does(y, "s01 00;"));
        due("the fade is 0", 0, y.told(4));
    }

    private static void aThirdFigure() {
        says("the first byte that can not stand there (a third figure)");
        fault("r123;", 3);
        fault("r001;", 3);
        fault("r 001;", 4);
        fault("p 000 1;", 4);
        fault("p000 1;", 3);
        fault("p 0 001;", 6);
        fault("g 10 100;", 7);
        fault("r1234;", 3);
        fault("r1;r111;", 6);
    }

    private static void blanksAnywhereButWithin() {
        says("blanks (32) may stand anywhere but within a number");
        fine("r1;", 1);
        fine(" r1;", 1);
        fine("r 1;", 1);
        fine("r1 ;", 1);
        fine("r1; ", 1);
        fine("   r   01   ;   ", 1);
        fine("p 0 1;", 1);
        fine("   p   00   01   ;   g   0   0   ;   ", 2);
        fault("r1 0;", 3);
        fault("p 0 0 1;", 6);
        fault("p 0 1 0;", 6);
    }

    private static void blanksNeeded() {
        says("needed only where figures of two numbers would else stand side by side");
        fine("p0 1;g0 0;s0 1;", 3);
        fault("p01;", 3);
        fault("p0001;", 3);
        fault("p11;", 3);
        fault("p011;", 3);
        fault("s12;", 3);
        PieceSwarm x = new PieceSwarm();
        due("two figures and one", 1, does(x, "p00 1;"));
        due("its cap", 1, x.of(0, 1));
    }

    private static void otherBytes() {
        says("FAULT: the place of the first byte that can not stand there");
        for (int c = 0; c <= 127; c++) {
            String one = String.valueOf((char) c);
            boolean letter = "pgrs".contains(one);
            boolean figure = c >= '0' && c <= '9';
            if (c == ' ') {
                continue;
            }
            if (!letter) {
                fault(one + "r1;", 0);
                fault("r1; " + one, 4);
            }
            if (!figure) {
                fault("r" + one + "1;", 1);
                fault("p 0 " + one, 4);
            }
            if (!figure && c != ';') {
                fault("r1" + one, 2);
            }
            if (c != ';') {
                fault("r12" + one + ";", 3);
                fault("r 1 " + one + ";", 4);
            }
        }
    }

    private static void endsTooEarly() {
        says("the TEXT's length, if it ends too early");
        String whole = " p 01 2 ; g 0 3 ; r 1 ; s 2 8 ;";
        int orders = 0;
        for (int length = 0; length <= whole.length(); length++) {
            String text = whole.substring(0, length);
            if (text.endsWith(";")) {
                orders++;
            }
            if (orders > 0 && (text.endsWith(";") || text.endsWith("; "))) {
                fine(text, orders);
            } else {
                fault(text, length);
            }
        }
    }

    private static void anEmptyText() {
        says("(an empty one, too)");
        fault("", 0);
        for (int blanks : new int[] {1, 2, 119, 120}) {
            fault(" ".repeat(blanks), blanks);
        }
    }

    private static void faultsAtEachPlace() {
        says("-10 less the FAULT (no S)");
        for (int place = 0; place < 120; place++) {
            fault(" ".repeat(place) + "x", place);
        }
        for (int place = 0; place < 120; place += 3) {
            fault("r1;".repeat(place / 3) + "?", place);
        }
        fault("r1;".repeat(39) + "r1 ", 120);
        fault("r1;".repeat(39) + "r1x", 119);
    }

    private static void nothingIsDoneByAFault() {
        says("If there is one, nothing is done");
        PieceSwarm x = swarm(4, 2, "H1 M1", "00");
        type(x, "p 0 1;g 0 1;r 5;s 0 4;r");
        changesNothing("a fault at the end", x, -10 - 23, x::does);
        x.type(' ');
        x.type('7');
        changesNothing("still one", x, -10 - 25, x::does);
        x.type(';');
        leavesState("none", x, 5, x::does);
        due("T", 12, x.count(3));
    }

    private static void readWholeFirst() {
        says("THE TEXT is read whole first");
        PieceSwarm x = new PieceSwarm();
        type(x, "r 99;p 3 9;?");
        changesNothing("a fault behind orders that would be passed over", x, -10 - 11, x::does);
        type(x, "r 1;?;r 2;!");
        changesNothing("the first one of two", x, -10 - 4, x::does);
    }

    private static void passedOverAsPeer() {
        says("an ORDER that its call would refuse then is passed over: p");
        PieceSwarm x = new PieceSwarm();
        due("kinds", 3, does(x, "p 0 1;p 1 1;p 2 1;p 3 1;p 99 1;"));
        due("caps", 2, does(x, "p 0 0;p 0 1;p 0 4;p 0 5;p 0 99;"));
        due("the sixth and a seventh", 1, does(x, "p 0 1;p 0 1;p 3 1;"));
        due("peers", 6, x.count(0));
    }

    private static void passedOverAsGives() {
        says("an ORDER that its call would refuse then is passed over: g");
        PieceSwarm x = swarm(8, 1, "H1 L1 M1", "00");
        due("has it, a liar, no peer, no piece", 0, does(x, "g 0 0;g 1 0;g 3 0;g 0 8;g 99 99;"));
        due("the last peer, the last piece", 2, does(x, "g 2 0;g 0 7;"));
        due("has it by the order ahead", 1, does(x, "g 0 3;g 0 3;"));
    }

    private static void passedOverAsRounds() {
        says("an ORDER that its call would refuse then is passed over: r");
        PieceSwarm x = new PieceSwarm();
        due("0, 1, 30, 31", 2, does(x, "r 0;r 1;r 30;r 31;r 00;r 99;"));
        due("T", 31, x.count(3));
    }

    private static void passedOverAsSets() {
        says("an ORDER that its call would refuse then is passed over: s");
        PieceSwarm x = new PieceSwarm();
        due("slots", 2, does(x, "s 0 0;s 0 1;s 0 4;s 0 5;"));
        due("fade", 2, does(x, "s 1 0;s 1 9;s 1 10;"));
        due("endgame", 2, does(x, "s 2 0;s 2 8;s 2 9;"));
        due("period", 2, does(x, "s 3 0;s 3 1;s 3 9;s 3 10;"));
        due("no such", 0, does(x, "s 4 1;s 99 1;"));
        for (int k = 0; k < 4; k++) {
            due("the last that was taken", new int[] {4, 9, 8, 9}[k], x.told(3 + k));
        }
    }

    private static void passedOverThen() {
        says("its call would refuse then");
        PieceSwarm x = new PieceSwarm();
        due("no peer yet, then one", 2, does(x, "g 0 0;p 0 1;g 0 0;"));
        due("the piece", 1, x.of(0, 2));
        // Two blocks by two rounds: the gift comes too late.
        PieceSwarm y = swarm(1, 2, "H1 M1", "00");
        due("got meanwhile", 1, does(y, "r 2;g 1 0;"));
        PieceSwarm z = swarm(1, 2, "H1 M1", "00");
        due("not got yet", 2, does(z, "r 1;g 1 0;"));
    }

    private static void passedOverCountsNothing() {
        says("By a FAULT, by ORDERS passed over nothing counts");
        PieceSwarm x = swarm(2, 2, "L1 H1 H1 H1 H1 H1", "10");
        due("BAD, NO, FULL", 0, does(x, "r 0;g 0 0;g 1 0;p 0 1;s 4 4;"));
        due("a fault", -10 - 4, does(x, "r 1;x"));
        due("BAD", 0, x.told(0));
        due("NO", 0, x.told(1));
        due("FULL", 0, x.told(2));
    }

    private static void theTextStays() {
        says("ORDERS are done (THE TEXT stays): how many were not passed over");
        PieceSwarm x = new PieceSwarm();
        type(x, "r 2;p 0 1;");
        due("once", 2, x.does());
        due("bytes", 10, x.told(7));
        due("twice", 2, x.does());
        due("T", 4, x.count(3));
        due("peers", 2, x.count(0));
        due("bytes then", 10, x.told(7));
        due("behind it", 11, x.type('r'));
        due("a fault", -10 - 11, x.does());
        due("bytes behind a fault", 11, x.told(7));
    }

    private static void oneStateForAll() {
        says("S (one STATE for all)");
        PieceSwarm x = new PieceSwarm();
        long before = plainDigest(x);
        leavesState("six orders", x, 6, () -> does(x, "p 0 1;p 1 2;g 0 3;r 9;s 0 1;s 1 1;"));
        due("back ahead of all", 0, x.back());
        x.clear();
        due("as before", before, plainDigest(x));
        leavesState("none is done", x, 0, () -> does(x, "r 0;"));
    }

    private static void theLongestTexts() {
        says("THE TEXT (120 bytes at most) tells ORDERS");
        fine("r1;".repeat(40), 40);
        fine("r0;".repeat(40), 0);
        fine("r30;".repeat(30), 30);
        fine("s0 1;".repeat(24), 24);
        fine(" ".repeat(117) + "r1;", 1);
        fine("r1;" + " ".repeat(117), 1);
        fine("p" + " ".repeat(115) + "0 1;", 1);
        fault("p" + " ".repeat(115) + "0 1 ", 120);
        PieceSwarm x = new PieceSwarm();
        does(x, "r30;".repeat(30));
        due("T", 900, x.count(3));
    }

    // ---- the states

    private static void eachCallToldLeavesAState() {
        says("STATES: each call told S, if it is not refused, leaves one");
        Deed[] good = {x -> x.begins(3, 3), x -> x.peer(0, 1), x -> x.gives(0, 1), x -> x.sets(0, 1),
            x -> x.rounds(1), x -> x.finishes(1), x -> does(x, "r 3;")};
        Deed[] bad = {x -> x.begins(0, 3), x -> x.peer(3, 1), x -> x.gives(0, 0), x -> x.sets(0, 0),
            x -> x.rounds(0), x -> x.finishes(0), x -> does(x, "r 3")};
        for (int k = 0; k < good.length; k++) {
            PieceSwarm x = new PieceSwarm();
            x.peer(0, 1);
            x.gives(0, 0);
            type(x, "r 3;");
            long before = plainDigest(x);
            bad[k].on(x);
            due("refused call " + k, 2, x.told(8));
            good[k].on(x);
            due("call " + k, 3, x.told(8));
            due("back", 2, x.back());
            type(x, "r 3;");
            due("as before call " + k, before, plainDigest(x));
        }
    }

    private static void aStateThoughNothingBecomesOther() {
        says("also if nothing becomes other by it");
        PieceSwarm x = new PieceSwarm();
        long before = plainDigest(x);
        leavesState("begins", x, 0, () -> x.begins(4, 2));
        leavesState("sets", x, 2, () -> x.sets(0, 2));
        leavesState("a text passed over", x, 0, () -> does(x, "r 0;"));
        for (int k = 2; k >= 0; k--) {
            due("back", k, x.back());
        }
        x.clear();
        due("as before", before, plainDigest(x));
        PieceSwarm y = swarm(1, 1, "H1", "00");
        leavesState("finished already", y, 0, () -> y.finishes(90));
    }

    private static void othersLeaveNone() {
        says("each call told S (the others leave none)");
        PieceSwarm x = swarm(2, 2, "H1 L1", "00");
        x.back();
        x.back();
        int states = x.told(8);
        x.type('r');
        x.clear();
        x.does();
        x.of(0, 2);
        x.block(0, 0, 0);
        x.rate(0, 1);
        x.suspects(0, 1);
        x.copies(0);
        x.rarest();
        x.ratio(0);
        x.spread();
        x.fairness();
        x.count(3);
        x.told(3);
        x.digest();
        due("states", states, x.told(8));
        due("back takes one", states - 1, x.back());
        due("and leaves none", states - 1, x.told(8));
    }

    private static void fiveStatesAtMost() {
        says("5 at most, older ones lost");
        for (int made = 1; made <= 12; made++) {
            PieceSwarm x = new PieceSwarm();
            for (int k = 1; k <= made; k++) {
                x.rounds(1);
                due("states", Math.min(k, 5), x.told(8));
            }
            int there = Math.min(made, 5);
            for (int k = 1; k <= there; k++) {
                due("how many can be yet", there - k, x.back());
                due("T", made - k, x.count(3));
            }
            refused("older ones are lost", x, NO, x::back);
            due("T stays", Math.max(made - 5, 0), x.count(3));
        }
        PieceSwarm y = new PieceSwarm();
        for (int k = 0; k < 30; k++) {
            y.rounds(3);
            y.rounds(4);
            due("there and back", Math.min(k + 1, 4), y.back());
            due("T", 3 * (k + 1), y.count(3));
        }
    }

    private static void backWithNone() {
        says("A STATE back: how many can be yet. NO: none");
        PieceSwarm x = new PieceSwarm();
        refused("a new object", x, NO, x::back);
        refused("again", x, NO, x::back);
        x.peer(0, 1);
        due("one", 0, x.back());
        refused("no more", x, NO, x::back);
        due("peers", 0, x.count(0));
        x.peer(1, 2);
        due("one again", 1, x.told(8));
        due("how many can be yet", 0, x.back());
    }

    private static void backTakesAllButTextAndRefused() {
        says("to go back to (all but THE TEXT and how often refused)");
        PieceSwarm x = swarm(3, 2, "H1 L2 H3 M1 H2 M4", "20 41 42");
        x.rounds(4);
        type(x, "r 1;");
        long before = plainDigest(x);
        x.begins(8, 4);
        x.peer(2, 1);
        x.sets(1, 1);
        x.peer(9, 9);
        x.finishes(9);
        type(x, "s 0 1;s 1 2;");
        due("texts are done", 2, x.does());
        x.back();
        x.back();
        x.back();
        due("back ahead of begins", 1, x.back());
        due("bytes", 12, x.told(7));
        due("refused BAD", 1, x.told(0));
        due("refused NO", 1, x.told(1));
        due("the text itself", 2, x.does());
        due("as it says", 12, 10 * x.told(3) + x.told(4));
        x.back();
        type(x, "r 1;");
        // The states are one of the numbers: as many as before.
        x.sets(0, x.told(3));
        x.sets(0, x.told(3));
        x.sets(0, x.told(3));
        x.sets(0, x.told(3));
        due("as before", before, plainDigest(x));
    }

    private static void backTakesSendersBack() {
        says("to go back to (from which PEER a BLOCK was GOT)");
        PieceSwarm x = swarm(1, 2, "H4 H4 M1", "10");
        x.rounds(1);
        due("from 1", 1, x.block(2, 0, 0));
        x.begins(1, 2);
        due("all orders", 5, does(x, "p0 4;p0 4;p1 1;g0 0;r1;"));
        due("from 0", 0, x.block(2, 0, 0));
        x.back();
        x.back();
        due("from 1 again", 1, x.block(2, 0, 0));
    }

    private static void backTakesADrawingBack() {
        says("to go back to (the drawing)");
        PieceSwarm x = swarm(8, 4, "M1 M1 M1 M1 M1 H1", "50");
        x.sets(0, 1);
        x.sets(3, 1);
        int[] lucky = {3, 3, 3, 0, 1};
        for (int k = 0; k < 5; k++) {
            x.rounds(1);
            due("drawn by 5", lucky[k], x.of(5, 5));
        }
        for (int k = 4; k >= 0; k--) {
            x.back();
            due("lucky as it was", k == 0 ? NONE : lucky[k - 1], x.of(5, 5));
            x.rounds(1);
            due("drawn again", lucky[k], x.of(5, 5));
            x.back();
        }
    }

    private static void backOverBegins() {
        says("All anew .. (STATES .. stay)");
        PieceSwarm x = swarm(8, 4, "H1 M2 L3 H4", "00 07 13");
        x.sets(2, 7);
        x.rounds(5);
        long before = plainDigest(x);
        x.begins(1, 1);
        x.peer(2, 4);
        x.peer(1, 4);
        x.rounds(2);
        due("states", 5, x.told(8));
        x.back();
        x.back();
        x.back();
        due("behind begins, which is anew", 1, x.count(1));
        due("ahead of begins", 1, x.back());
        due("P", 8, x.count(1));
        due("B", 4, x.count(2));
        due("peers", 4, x.count(0));
        for (int k = 0; k < 5; k++) {
            x.sets(2, 7);
        }
        due("as before", before, plainDigest(x));
    }

    // ---- what is refused

    private static void theFirstOfBadNoFull() {
        says("Refused .. the first of: BAD -2 a number is not as told; NO -3, FULL -4 as told");
        PieceSwarm x = swarm(2, 2, "L1 M1 M1 M1 M1 M1", "10");
        refused("peer: BAD ahead of FULL", x, BAD, () -> x.peer(-1, 1));
        refused("peer: BAD ahead of FULL", x, BAD, () -> x.peer(0, 0));
        refused("peer: FULL", x, FULL, () -> x.peer(0, 1));
        refused("gives: BAD ahead of NO", x, BAD, () -> x.gives(0, 2));
        refused("gives: NO", x, NO, () -> x.gives(0, 1));
        refused("gives: NO", x, NO, () -> x.gives(1, 0));
        refused("finishes: BAD ahead of NO", x, BAD, () -> x.finishes(0));
        refused("finishes: NO", x, NO, () -> x.finishes(90));
        PieceSwarm y = new PieceSwarm();
        type(y, " ".repeat(120));
        refused("type: BAD ahead of FULL", y, BAD, () -> y.type(128));
        refused("type: FULL", y, FULL, () -> y.type(127));
        refused("back: NO", y, NO, y::back);
    }

    private static void refusedOnesLeaveNothingHidden() {
        says("Refused (any call, getters, too), changing nothing but how often");
        List<Deed> refusals = new ArrayList<>();
        refusals.add(x -> x.begins(0, 1));
        refusals.add(x -> x.begins(1, 5));
        refusals.add(x -> x.peer(3, 1));
        refusals.add(x -> x.peer(0, 1));
        refusals.add(x -> x.gives(6, 0));
        refusals.add(x -> x.gives(1, 0));
        refusals.add(x -> x.gives(2, 0));
        refusals.add(x -> x.sets(0, 5));
        refusals.add(x -> x.sets(4, 1));
        refusals.add(x -> x.rounds(31));
        refusals.add(x -> x.finishes(91));
        refusals.add(x -> x.of(6, 0));
        refusals.add(x -> x.of(0, 10));
        refusals.add(x -> x.block(0, 3, 0));
        refusals.add(x -> x.block(0, 0, 2));
        refusals.add(x -> x.rate(2, 2));
        refusals.add(x -> x.suspects(2, 2));
        refusals.add(x -> x.copies(3));
        refusals.add(x -> x.ratio(6));
        refusals.add(x -> x.count(10));
        refusals.add(x -> x.told(9));
        refusals.add(x -> x.type(128));
        for (int k = 0; k < refusals.size(); k++) {
            PieceSwarm x = manyStates();
            PieceSwarm twin = manyStates();
            due("refusal " + k + " is one", 1, refusals.get(k).on(x) <= BAD ? 1 : 0);
            due("refusal " + k + " is counted", 1, x.told(0) + x.told(1) + x.told(2));
            goOnAlike("behind refusal " + k, x, twin);
        }
    }

    /** Six peers, five states that are all unlike, a text, and a drawing that is under way. */
    private static PieceSwarm manyStates() {
        PieceSwarm x = swarm(3, 2, "H1 L2 H3 M1 H2 M4", "20 41 42");
        type(x, "r 2;s 3 1;r 1;");
        x.rounds(1);
        x.sets(0, 3);
        x.rounds(2);
        x.sets(1, 8);
        x.rounds(1);
        return x;
    }

    /** The text, the drawing and the states themselves show only in what comes then. */
    private static void goOnAlike(String what, PieceSwarm x, PieceSwarm twin) {
        due(what + ": at once", plainDigest(twin), plainDigest(x));
        due(what + ": the text", twin.does(), x.does());
        for (int k = 0; k < 5; k++) {
            due(what + ": back by " + k, plainDigest(twin), plainDigest(x));
            due(what + ": how many yet", twin.back(), x.back());
        }
        for (int k = 0; k < 4; k++) {
            due(what + ": rounds then", twin.rounds(3), x.rounds(3));
            due(what + ": all then", plainDigest(twin), plainDigest(x));
        }
    }
}
