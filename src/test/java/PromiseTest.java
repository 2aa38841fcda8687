/** At least one test for each promise, with answers worked out by hand from the document. */
public final class PromiseTest extends Checks {
    public static void main(String[] args) {
        newObject();
        begins();
        beginsAnew();
        richSwarms();
        peer();
        gives();
        givesOverBlocks();
        sets();
        rounds();
        roundsOpenByWorth();
        roundsDrawLucky();
        roundsMiserAndLiar();
        roundsAskRarestFirst();
        roundsEndgame();
        roundsCap();
        roundsDropAlone();
        roundsDropTogether();
        roundsBarBothWays();
        roundsFade();
        finishes();
        of();
        block();
        rate();
        suspects();
        copiesAndRarest();
        ratio();
        spread();
        fairness();
        count();
        typeAndClear();
        does();
        doesFaults();
        doesLongTexts();
        back();
        backForgetsTheOldest();
        told();
        digest();
        constants();
        endWithExitCode();
    }

    private static void newObject() {
        PieceSwarm x = new PieceSwarm();
        int[] told = {0, 0, 0, 2, 5, 2, 3, 0, 0};
        for (int k = 0; k < told.length; k++) {
            due("1: told " + k, told[k], x.told(k));
        }
        int[] count = {0, 4, 2, 0, 0, 0, 0, 0, 0, 1};
        for (int k = 0; k < count.length; k++) {
            due("1: count " + k, count[k], x.count(k));
        }
        due("1: copies", 0, x.copies(3));
        due("1: back", NO, x.back());
        due("1: clear", 0, x.clear());
        PieceSwarm two = new PieceSwarm();
        two.peer(0, 1);
        due("1: objects are apart", 0, x.count(0));
    }

    private static void begins() {
        PieceSwarm x = new PieceSwarm();
        int[][] bad = {{0, 1}, {9, 1}, {1, 0}, {1, 5}, {0, 0}};
        for (int[] pair : bad) {
            due("2: bad " + pair[0] + " " + pair[1], BAD, x.begins(pair[0], pair[1]));
        }
        for (int far : FAR) {
            due("2: far p", BAD, x.begins(far, 1));
            due("2: far b", BAD, x.begins(1, far));
        }
        due("2: refused counted", 13, x.told(0));
        due("2: no state left", 0, x.told(8));
        due("2: file as it was", 4, x.count(1));
        for (int p = 1; p <= 8; p++) {
            for (int b = 1; b <= 4; b++) {
                due("2: begins " + p + " " + b, 0, x.begins(p, b));
                due("2: P", p, x.count(1));
                due("2: B", b, x.count(2));
            }
        }
    }

    private static void beginsAnew() {
        PieceSwarm x = honest(4, 2, 1, 1, 1);
        giveAll(x, 0);
        x.sets(0, 4);
        x.sets(1, 9);
        x.sets(2, 8);
        x.sets(3, 9);
        x.type(65);
        x.peer(7, 7);
        x.rounds(5);
        due("2: how many there were", 3, x.begins(8, 4));
        int[] told = {1, 0, 0, 2, 5, 2, 3, 1, 5};
        for (int k = 0; k < told.length; k++) {
            due("2: told " + k + " behind it", told[k], x.told(k));
        }
        int[] count = {0, 8, 4, 0, 0, 0, 0, 0, 0, 1};
        for (int k = 0; k < count.length; k++) {
            due("2: count " + k + " behind it", count[k], x.count(k));
        }
        for (int k = 0; k < 6; k++) {
            x.peer(0, 1);
        }
        x.gives(0, 0);
        x.sets(0, 1);
        x.rounds(1);
        // The drawing is at first again: 16838 % 5 is 3, and the wanting ones are 1 to 5.
        due("2: the drawing is anew", 4, x.of(0, 5));
        due("2: nothing is left of a peer", 0, x.suspects(1, 0) + x.rate(1, 0) + x.of(1, 2));
    }

    /** Blocks of all kinds of peers, cancelled and dropped ones, some that bar, a lucky one. */
    private static void makeRich(PieceSwarm x) {
        x.begins(3, 4);
        int[] kinds = {0, 2, 0, 1, 0, 2};
        for (int i = 0; i < 6; i++) {
            x.peer(kinds[i], 1 + i % 4);
        }
        for (int n = 0; n < 3; n++) {
            x.gives(n % 2 == 0 ? 2 : 4, n);
        }
        x.sets(0, 3);
        x.sets(1, 7);
        x.sets(2, 8);
        x.sets(3, 2);
        x.rounds(5);
    }

    private static void dueAlike(String what, long[] want, long[] got) {
        for (int k = 0; k < want.length; k++) {
            due(what + ", row " + k, want[k], got[k]);
        }
    }

    private static void richSwarms() {
        PieceSwarm x = new PieceSwarm();
        makeRich(x);
        for (int what = 3; what <= 8; what++) {
            due("17: rich in " + what, 1, x.count(what) > 0 ? 1 : 0);
        }
        long[] rich = face(x);
        x.rounds(1);
        x.begins(8, 1);
        for (int i = 0; i < 6; i++) {
            x.peer(0, 4 - i % 4);
            x.back();
        }
        dueAlike("21: as it was", rich, face(backBy(x, 2)));
        makeRich(x);
        dueAlike("2: as at first", rich, face(x));
        x.rounds(1);
        // Other peers take the places of the old ones, then all is taken back.
        x.begins(8, 4);
        x.peer(2, 4);
        x.peer(0, 4);
        x.rounds(9);
        dueAlike("21: other peers were there", rich, face(backBy(x, 5)));
        x.rounds(9);
        PieceSwarm y = new PieceSwarm();
        makeRich(y);
        y.rounds(9);
        dueAlike("21: it goes on alike", face(y), face(x));
    }

    private static PieceSwarm backBy(PieceSwarm x, int n) {
        for (int k = 0; k < n; k++) {
            x.back();
        }
        return x;
    }

    private static void peer() {
        PieceSwarm x = new PieceSwarm();
        int[][] bad = {{-1, 1}, {3, 1}, {0, 0}, {0, 5}};
        for (int[] pair : bad) {
            due("3: bad " + pair[0] + " " + pair[1], BAD, x.peer(pair[0], pair[1]));
        }
        for (int far : FAR) {
            due("3: far kind", BAD, x.peer(far, 1));
            due("3: far cap", BAD, x.peer(0, far));
        }
        for (int i = 0; i < 6; i++) {
            due("3: its number", i, x.peer(i % 3, 1 + i % 4));
            due("3: its kind", i % 3, x.of(i, 0));
            due("3: its cap", 1 + i % 4, x.of(i, 1));
            due("3: it got nothing", 8, x.of(i, 3));
        }
        due("3: full", FULL, x.peer(0, 1));
        due("3: bad ahead of full", BAD, x.peer(0, 5));
        due("3: still six", 6, x.count(0));
        due("3: refused full", 1, x.told(2));
        due("3: states", 5, x.told(8));
    }

    private static void gives() {
        PieceSwarm x = new PieceSwarm();
        due("4: no peer", BAD, x.gives(0, 0));
        x.peer(0, 1);
        x.peer(1, 1);
        x.peer(2, 1);
        due("4: bad piece", BAD, x.gives(0, 4));
        due("4: bad peer", BAD, x.gives(3, 0));
        for (int far : FAR) {
            due("4: far peer", BAD, x.gives(far, 0));
            due("4: far piece", BAD, x.gives(0, far));
        }
        due("4: one", 1, x.gives(0, 3));
        due("4: two", 2, x.gives(0, 0));
        due("4: has it", NO, x.gives(0, 3));
        due("4: a miser", 1, x.gives(1, 2));
        due("4: a liar", NO, x.gives(2, 2));
        due("4: bad ahead of no", BAD, x.gives(2, 4));
        due("4: bits", 9, x.of(0, 2));
        due("4: refused", 2, x.told(1));
        due("4: not counted as got", 0, x.of(0, 8));
        due("4: states", 5, x.told(8));
        x.back();
        due("4: taken back", 0, x.of(1, 2));
    }

    private static void givesOverBlocks() {
        PieceSwarm x = honest(2, 4, 1, 1);
        giveAll(x, 0);
        x.rounds(2);
        due("4: two blocks came", 0, x.block(1, 0, 1));
        due("4: left", 6, x.of(1, 3));
        due("4: given", 1, x.gives(1, 0));
        due("4: whole", 100, x.block(1, 0, 1));
        due("4: left then", 4, x.of(1, 3));
        due("4: got stays", 2, x.of(1, 8));
        x.rounds(4);
        due("4: the other piece came", 3, x.of(1, 2));
    }

    private static void sets() {
        PieceSwarm x = new PieceSwarm();
        int[] least = {1, 0, 0, 1};
        int[] most = {4, 9, 8, 9};
        int[] first = {2, 5, 2, 3};
        for (int what = 0; what < 4; what++) {
            due("5: below", BAD, x.sets(what, least[what] - 1));
            due("5: above", BAD, x.sets(what, most[what] + 1));
            for (int far : FAR) {
                due("5: far", BAD, x.sets(what, far));
            }
            due("5: was first", first[what], x.sets(what, least[what]));
            due("5: is least", least[what], x.told(3 + what));
            due("5: was least", least[what], x.sets(what, most[what]));
            due("5: is most", most[what], x.told(3 + what));
            due("5: alike", most[what], x.sets(what, most[what]));
        }
        due("5: no such", BAD, x.sets(4, 1));
        due("5: no such", BAD, x.sets(-1, 1));
        due("5: states", 5, x.told(8));
        PieceSwarm y = new PieceSwarm();
        y.sets(0, 2);
        due("5: a state though nothing is other", 1, y.told(8));
    }

    private static void rounds() {
        PieceSwarm x = new PieceSwarm();
        due("6: none", BAD, x.rounds(0));
        due("6: too many", BAD, x.rounds(31));
        for (int far : FAR) {
            due("6: far", BAD, x.rounds(far));
        }
        due("6: without peers", 1, x.rounds(1));
        due("6: thirty", 31, x.rounds(30));
        due("6: T", 31, x.count(3));
        due("6: states", 2, x.told(8));
        x.back();
        due("6: T back", 1, x.count(3));
    }

    private static void roundsOpenByWorth() {
        // A leecher opens to the one that gave to it: 2 becomes REGULAR, so LUCKY has to be 1.
        PieceSwarm x = honest(4, 1, 4, 4, 4);
        x.gives(0, 0);
        x.gives(2, 1);
        x.rounds(1);
        due("6b: like worth, the least is regular", 2, x.of(0, 5));
        due("6b: open to both", 6, x.of(0, 4));
        x.gives(0, 2);
        x.rounds(1);
        due("6b: worth is the rate of i from j", 1, x.of(0, 5));
        // One that has all opens to the one that took from it: 16838 % 3 is 2, so 3 took.
        PieceSwarm y = honest(4, 4, 4, 4, 4, 4);
        giveAll(y, 0);
        y.sets(0, 1);
        y.rounds(1);
        due("6b: lucky alone", 8, y.of(0, 4));
        y.sets(0, 2);
        y.rounds(1);
        due("6b: 3 is regular", 1, y.of(0, 4) >> 3 & 1);
        due("6b: lucky is another", 1, y.of(0, 5) == 1 || y.of(0, 5) == 2 ? 1 : 0);
        due("6b: two are open", 2, Integer.bitCount(y.of(0, 4)));
        y.sets(0, 4);
        y.rounds(1);
        due("6b: none lucky if all are regular", NONE, y.of(0, 5));
        due("6b: fewer want than slots", 14, y.of(0, 4));
        // A liar looks at what the others took, too.
        PieceSwarm z = new PieceSwarm();
        z.begins(4, 4);
        z.peer(2, 4);
        z.peer(0, 1);
        z.peer(0, 1);
        z.peer(0, 1);
        z.sets(0, 1);
        z.rounds(1);
        due("6b: a liar's lucky one", 8, z.of(0, 4));
        z.sets(0, 2);
        z.rounds(1);
        due("6b: a liar's regular one", 1, z.of(0, 4) >> 3 & 1);
        due("6b: a liar's lucky one is another", 1, z.of(0, 5) != 3 ? 1 : 0);
    }

    private static void roundsDrawLucky() {
        // Three want of the one seed; what is drawn by 3 is 2, 1, 0, 1. None has a piece within three rounds.
        PieceSwarm x = honest(8, 4, 1, 1, 1, 1);
        giveAll(x, 3);
        x.sets(0, 1);
        x.sets(3, 1);
        long drawing = 1;
        for (int k = 0; k < 3; k++) {
            x.rounds(1);
            drawing = nextDrawing(drawing);
            due("6b: drawn each round", drawing / 65536 % 3, x.of(3, 5));
            due("6b: open to that one", 1 << x.of(3, 5), x.of(3, 4));
            due("6b: nothing to open for", NONE, x.of(1, 5));
            due("6b: nothing opened", 0, x.of(1, 4));
        }
        x.sets(3, 9);
        x.rounds(1);
        due("6b: 0 stays, too", 0, x.of(3, 5));
        PieceSwarm y = honest(8, 4, 1, 1, 1, 1);
        giveAll(y, 3);
        y.sets(0, 1);
        for (int k = 0; k < 3; k++) {
            y.rounds(1);
            due("6b: it stays", 2, y.of(3, 5));
        }
        y.rounds(1);
        due("6b: drawn anew at the period", 1, y.of(3, 5));
        giveAll(y, 1);
        y.rounds(1);
        // The third drawing, 10113, by 2: number 1 of 0 and 2.
        due("6b: one that wants no more goes", 2, y.of(3, 5));
    }

    private static void roundsMiserAndLiar() {
        PieceSwarm x = new PieceSwarm();
        x.begins(2, 1);
        x.peer(1, 4);
        x.peer(0, 4);
        x.peer(2, 4);
        x.gives(0, 0);
        x.rounds(1);
        due("6b: a miser opens to none", 0, x.of(0, 4));
        due("6b: a miser has no lucky", NONE, x.of(0, 5));
        due("6a: a miser wants", 3, x.of(2, 4));
        due("6a: a liar wants nothing", 0, x.of(2, 8));
        due("6d: a liar's blocks are false", 2, x.count(5));
        due("6d: a miser sent nothing", 0, x.of(0, 7));
        due("6d: one block, all of it from one", 4, x.of(1, 6));
        due("6d: a miser bars, too", 4, x.of(0, 6));
        x.rounds(1);
        due("6a: barred", 0, x.of(2, 4));
        x.gives(1, 1);
        x.rounds(1);
        due("6a: honest ones go on", 3, x.of(0, 2));
    }

    private static void roundsAskRarestFirst() {
        PieceSwarm x = honest(3, 3, 1, 1, 1, 1);
        giveAll(x, 0);
        x.gives(2, 0);
        x.gives(2, 1);
        x.gives(3, 0);
        x.gives(3, 1);
        x.sets(0, 4);
        // Piece 2 is the rarest; 1 asks 0 for it, and 2 and 3 for the least one they have.
        x.rounds(1);
        due("6c: the rarest", 0, x.block(1, 2, 0));
        due("6c: of like ones the least", 2, x.block(1, 0, 0));
        due("6c: one that was asked for is started", 3, x.block(1, 0, 1));
        due("6c: nobody was asked for it", NONE, x.block(1, 1, 0));
        // Started ones go ahead of rarer ones.
        PieceSwarm w = honest(2, 4, 1, 1);
        giveAll(w, 0);
        w.rounds(1);
        due("6c: the least of like ones", 0, w.block(1, 0, 0));
        w.peer(0, 1);
        w.gives(2, 0);
        due("6c: piece 1 is rarer now", 1, w.rarest());
        w.sets(0, 4);
        w.rounds(1);
        due("6c: started first", 0, w.block(1, 0, 1));
        due("6c: the next free block", 2, w.block(1, 0, 2));
        due("6c: not the rarer one", NONE, w.block(1, 1, 0));
    }

    private static void roundsEndgame() {
        // Three seeds, two leechers: 3 is whole after seed 1; seed 2 finds both asks needless.
        PieceSwarm x = honest(1, 2, 2, 1, 1, 1, 1);
        x.gives(0, 0);
        x.gives(1, 0);
        x.gives(2, 0);
        x.rounds(1);
        due("6d: cancelled: has it, got it", 2, x.count(6));
        due("6d: 3 is whole", 1, x.of(3, 2));
        due("6d: 4 lacks one", 1, x.of(4, 3));
        due("6d: from 0", 0, x.block(4, 0, 0));
        due("6d: cancelled ones are not sent", 0, x.of(2, 7));
        // The same, but seed 0 sends one block a round: 4 gets its first one from seed 2.
        PieceSwarm y = honest(1, 2, 1, 1, 1, 1, 1);
        y.gives(0, 0);
        y.gives(1, 0);
        y.gives(2, 0);
        y.rounds(1);
        due("6d: cancelled one", 1, y.count(6));
        due("6d: from 2", 2, y.block(4, 0, 0));
        // LEFT is 2: an endgame of 1 asks nobody twice, one of 2 does.
        for (int endgame = 0; endgame <= 2; endgame++) {
            PieceSwarm z = honest(1, 2, 1, 1, 1, 1);
            z.gives(0, 0);
            z.gives(1, 0);
            z.gives(2, 0);
            z.sets(2, endgame);
            z.rounds(1);
            due("6c: endgame " + endgame, endgame == 2 ? 1 : 0, z.count(6));
            due("6c: whole all the same", 100, z.block(3, 0, 0));
        }
    }

    private static void roundsCap() {
        for (int cap = 1; cap <= 4; cap++) {
            PieceSwarm x = honest(8, 4, cap, 1, 1, 1, 1);
            giveAll(x, 0);
            x.sets(0, 4);
            x.rounds(1);
            due("6d: all four are open", 30, x.of(0, 4));
            due("6d: cap " + cap, cap, x.of(0, 7));
            due("6d: the least first", 1, x.of(cap, 8));
            due("6d: nothing for the last", cap == 4 ? 1 : 0, x.of(4, 8));
            due("6d: that is no cancelling", 0, x.count(6));
        }
    }

    private static void roundsDropAlone() {
        PieceSwarm x = new PieceSwarm();
        x.begins(1, 2);
        x.peer(2, 1);
        x.peer(0, 1);
        x.rounds(1);
        due("6d: not looked at before it is whole", 0, x.count(7));
        due("6d: it got one", 0, x.block(1, 0, 0));
        x.rounds(1);
        due("6d: dropped", 1, x.count(7));
        due("6d: no block stays", NONE, x.block(1, 0, 0));
        due("6d: none", 0, x.of(1, 2));
        due("6d: left as at first", 2, x.of(1, 3));
        due("6d: suspected once", 1, x.suspects(1, 0));
        due("6d: barred, all came from it", 1, x.of(1, 6));
        due("6d: a pair", 1, x.count(8));
        due("6d: got counts dropped ones", 2, x.of(1, 8));
        due("6e: rates count dropped ones", bits(1.5f), x.rate(1, 0));
        due("6d: false ones", 2, x.count(5));
        x.rounds(3);
        due("6a: nothing comes any more", 2, x.count(4));
    }

    private static void roundsDropTogether() {
        PieceSwarm x = new PieceSwarm();
        x.begins(2, 2);
        x.peer(2, 4);
        x.peer(0, 4);
        x.peer(0, 4);
        x.gives(1, 0);
        x.gives(2, 1);
        x.gives(1, 1);
        // 2 asks 0 for block 0 and 1 for block 1 of piece 0, twice.
        x.rounds(1);
        due("6d: dropped once", 1, x.count(7));
        due("6d: the liar is suspected", 1, x.suspects(2, 0));
        due("6d: the honest one, too", 1, x.suspects(2, 1));
        due("6d: none is barred yet", 0, x.of(2, 6));
        x.rounds(1);
        due("6d: dropped twice", 2, x.count(7));
        due("6d: suspected twice", 2, x.suspects(2, 1));
        due("6d: both are barred", 3, x.of(2, 6));
        due("6d: two pairs", 2, x.count(8));
        due("6d: false ones", 2, x.count(5));
        due("6d: blocks sent", 4, x.count(4));
        x.rounds(1);
        due("6a: the barred one opens to nobody", 0, x.of(1, 4));
        x.back();
        x.back();
        x.back();
        due("6: back ahead of all", 0, x.count(7) + x.of(2, 6) + x.suspects(2, 1));
    }

    private static void roundsBarBothWays() {
        // 0 lies, 1 has piece 0, the miser 3 makes both pieces as rare: 2 asks 0 and 1 for piece 0.
        PieceSwarm x = new PieceSwarm();
        x.begins(2, 2);
        x.peer(2, 4);
        x.peer(0, 4);
        x.peer(0, 4);
        x.peer(1, 4);
        x.gives(1, 0);
        x.gives(3, 1);
        x.sets(0, 4);
        x.rounds(2);
        due("6d: 2 bars both", 3, x.of(2, 6));
        due("6d: 1 bars the liar alone", 1, x.of(1, 6));
        x.gives(2, 1);
        x.rounds(1);
        due("6a: one that bars opens not to the barred one", 0, x.of(2, 4));
        due("6a: nor the barred one to it", 0, x.of(1, 4) >> 2 & 1);
    }

    private static void roundsFade() {
        for (int fade = 0; fade <= 9; fade++) {
            PieceSwarm x = honest(4, 2, 1, 1);
            giveAll(x, 0);
            x.sets(1, fade);
            float rate = 0f;
            for (int t = 0; t < 8; t++) {
                x.rounds(1);
                rate = rate * (fade / 10f) + 1f;
                due("6e: fade " + fade + " in round " + t, bits(rate), x.rate(1, 0));
            }
            for (int t = 0; t < 50; t++) {
                x.rounds(30);
                for (int k = 0; k < 30; k++) {
                    rate = rate * (fade / 10f);
                }
                due("6e: fade " + fade + " long after", bits(rate), x.rate(1, 0));
            }
            due("6e: nothing came back", 0, x.rate(0, 1));
        }
        for (int t = 0; t < 60; t++) {
            PieceSwarm x = honest(1, 1, 1, 1);
            x.gives(0, 0);
            x.sets(1, 1);
            x.rounds(1);
            float rate = 1f;
            for (int k = 0; k < t; k++) {
                x.rounds(1);
                rate = rate * (1 / 10f);
            }
            due("6e: down to nothing, " + t, bits(rate), x.rate(1, 0));
        }
    }

    private static void finishes() {
        PieceSwarm x = new PieceSwarm();
        due("7: bad ahead of no", BAD, x.finishes(0));
        due("7: too many", BAD, x.finishes(91));
        for (int far : FAR) {
            due("7: far", BAD, x.finishes(far));
        }
        due("7: no peers", NO, x.finishes(1));
        x.peer(1, 1);
        x.peer(2, 1);
        due("7: none honest", NO, x.finishes(90));
        due("7: no rounds by that", 0, x.count(3));
        PieceSwarm y = honest(4, 2, 1, 1);
        due("7: nobody has any", NONE, y.finishes(90));
        due("7: all were done", 90, y.count(3));
        giveAll(y, 0);
        due("7: one too few", NONE, y.finishes(7));
        due("7: the last one", 1, y.finishes(90));
        due("7: T", 98, y.count(3));
        due("7: finished", 1, y.count(9));
        int states = y.told(8);
        due("7: nothing to do", 0, y.finishes(1));
        due("7: states at most", 5, states);
        y.back();
        due("7: that left a state", 1, y.count(9));
        y.back();
        due("7: and that one", 0, y.count(9));
        PieceSwarm z = honest(1, 1, 1);
        z.gives(0, 0);
        z.peer(1, 1);
        due("7: misers need not finish", 0, z.finishes(5));
        due("7: a state for nothing", 5, z.told(8));
        z.peer(0, 1);
        due("7: just enough", 2, z.finishes(2));
    }

    private static void of() {
        PieceSwarm x = honest(3, 2, 2, 3);
        giveAll(x, 0);
        for (int far : FAR) {
            due("8: far peer", BAD, x.of(far, 0));
            due("8: far what", BAD, x.of(0, far));
        }
        due("8: no such peer", BAD, x.of(2, 0));
        due("8: no such what", BAD, x.of(0, 10));
        due("8: no round yet", 0, x.of(0, 4));
        due("8: no lucky yet", NONE, x.of(0, 5));
        x.sets(2, 0);
        x.rounds(3);
        int[] seed = {0, 2, 7, 0, 2, NONE, 0, 3, 0, 7};
        int[] leech = {0, 3, 1, 3, 0, NONE, 0, 0, 3, 1};
        for (int k = 0; k < 10; k++) {
            due("8: of the seed " + k, seed[k], x.of(0, k));
            due("8: of the leecher " + k, leech[k], x.of(1, k));
        }
        x.rounds(4);
        due("8: the last round opened nothing", 0, x.of(0, 4));
        x.peer(2, 1);
        due("8: a liar has none", 0, x.of(2, 2));
        due("8: a liar claims all", 7, x.of(2, 9));
        due("8: a liar lacks all", 6, x.of(2, 3));
    }

    private static void block() {
        PieceSwarm x = honest(2, 2, 1, 1);
        int[][] bad = {{2, 0, 0}, {0, 2, 0}, {0, 0, 2}, {-1, 0, 0}, {0, -1, 0}, {0, 0, -1}};
        for (int[] c : bad) {
            due("9: bad", BAD, x.block(c[0], c[1], c[2]));
        }
        for (int far : FAR) {
            due("9: far", BAD, x.block(far, far, far));
        }
        due("9: refused", 10, x.told(0));
        giveAll(x, 1);
        x.rounds(1);
        due("9: from 1", 1, x.block(0, 0, 0));
        due("9: not yet", NONE, x.block(0, 0, 1));
        due("9: not refused", 10, x.told(0));
        x.rounds(1);
        due("9: whole", 100, x.block(0, 0, 0));
        due("9: given", 100, x.block(1, 1, 1));
    }

    private static void rate() {
        PieceSwarm x = honest(2, 2, 1, 1);
        due("10: alike", BAD, x.rate(0, 0));
        due("10: no such j", BAD, x.rate(2, 0));
        due("10: no such i", BAD, x.rate(0, 2));
        for (int far : FAR) {
            due("10: far j", BAD, x.rate(far, 0));
            due("10: far i", BAD, x.rate(0, far));
        }
        due("10: at first", 0, x.rate(0, 1));
        giveAll(x, 1);
        x.rounds(2);
        due("10: of 0 from 1", bits(1.5f), x.rate(0, 1));
        due("10: of 1 from 0", 0, x.rate(1, 0));
    }

    private static void suspects() {
        PieceSwarm x = new PieceSwarm();
        x.begins(1, 1);
        x.peer(2, 1);
        x.peer(0, 1);
        due("11: alike", BAD, x.suspects(1, 1));
        due("11: no such j", BAD, x.suspects(2, 0));
        due("11: no such i", BAD, x.suspects(0, 2));
        for (int far : FAR) {
            due("11: far j", BAD, x.suspects(far, 0));
            due("11: far i", BAD, x.suspects(0, far));
        }
        due("11: at first", 0, x.suspects(1, 0));
        x.rounds(1);
        due("11: once", 1, x.suspects(1, 0));
        due("11: not the other way", 0, x.suspects(0, 1));
    }

    private static void copiesAndRarest() {
        PieceSwarm x = honest(3, 1, 1, 1);
        due("12: no such", BAD, x.copies(3));
        for (int far : FAR) {
            due("12: far", BAD, x.copies(far));
        }
        due("13: none has any", NONE, x.rarest());
        due("13: that is no refusal", 5, x.told(0));
        x.gives(0, 2);
        due("12: one", 1, x.copies(2));
        due("12: none", 0, x.copies(0));
        due("13: one at least", 2, x.rarest());
        x.gives(0, 1);
        due("13: of like ones the least", 1, x.rarest());
        x.gives(1, 1);
        due("12: two", 2, x.copies(1));
        due("13: the fewest", 2, x.rarest());
        x.peer(2, 1);
        due("12: a liar claims", 1, x.copies(0));
        due("13: claimed by a liar alone", 0, x.rarest());
        x.peer(2, 1);
        x.peer(2, 1);
        x.peer(2, 1);
        due("12: six", 6, x.copies(1));
        PieceSwarm y = new PieceSwarm();
        for (int i = 0; i < 6; i++) {
            y.peer(2, 1);
        }
        due("13: all claim all", 0, y.rarest());
    }

    private static void ratio() {
        PieceSwarm x = honest(3, 1, 1, 1, 1);
        due("14: no such", BAD, x.ratio(3));
        for (int far : FAR) {
            due("14: far", BAD, x.ratio(far));
        }
        due("14: nothing by nothing", 0, x.ratio(0));
        giveAll(x, 0);
        x.finishes(90);
        due("14: by 0", 0, x.ratio(0));
        int sent = x.of(1, 7);
        int got = x.of(1, 8);
        due("14: all came", 3, got);
        due("14: sent by got", bits((float) sent / (float) got), x.ratio(1));
        PieceSwarm y = honest(4, 1, 4, 4);
        y.gives(0, 0);
        y.gives(0, 1);
        y.gives(0, 2);
        y.gives(1, 3);
        y.rounds(8);
        due("14: three by one", bits(3f), y.ratio(0));
        due("14: one by three", bits(1f / 3f), y.ratio(1));
    }

    private static void spread() {
        PieceSwarm x = honest(3, 1, 1, 1);
        due("15: none", 0, x.spread());
        x.gives(0, 0);
        due("15: a third", bits(1f / 3f), x.spread());
        x.gives(1, 0);
        due("15: two thirds", bits(2f / 3f), x.spread());
        x.peer(2, 1);
        due("15: five thirds", bits(5f / 3f), x.spread());
        PieceSwarm y = new PieceSwarm();
        y.begins(8, 1);
        for (int i = 0; i < 6; i++) {
            y.peer(2, 1);
        }
        due("15: six", bits(6f), y.spread());
    }

    private static void fairness() {
        PieceSwarm x = honest(4, 1, 4, 4, 4);
        due("16: nothing sent", bits(1.0), x.fairness());
        x.gives(0, 0);
        x.gives(0, 1);
        x.gives(0, 2);
        x.gives(1, 3);
        x.finishes(90);
        double s = 0;
        double q = 0;
        for (int i = 0; i < 3; i++) {
            double u = x.of(i, 7);
            s = s + u;
            q = q + u * u;
        }
        due("16: eight were sent", 8, (long) s);
        due("16: the index", bits(s * s / (3.0 * q)), x.fairness());
        PieceSwarm y = honest(4, 1, 4, 4);
        y.gives(0, 0);
        y.gives(0, 1);
        y.gives(0, 2);
        y.gives(1, 3);
        y.rounds(8);
        due("16: 16 by 20", bits(16.0 / 20.0), y.fairness());
        due("16: no peers", bits(1.0), new PieceSwarm().fairness());
    }

    private static void count() {
        PieceSwarm x = new PieceSwarm();
        due("17: no such", BAD, x.count(10));
        for (int far : FAR) {
            due("17: far", BAD, x.count(far));
        }
        x.begins(1, 2);
        x.peer(2, 4);
        due("17: none honest", 1, x.count(9));
        x.peer(0, 4);
        x.peer(0, 4);
        x.gives(1, 0);
        due("17: one has not all", 0, x.count(9));
        x.rounds(2);
        int[] all = {3, 1, 2, 2, 4, 2, 0, 2, 2, 0};
        for (int k = 0; k < all.length; k++) {
            due("17: count " + k, all[k], x.count(k));
        }
        x.gives(2, 0);
        due("17: all honest ones have all", 1, x.count(9));
    }

    private static void typeAndClear() {
        PieceSwarm x = new PieceSwarm();
        due("18: below", BAD, x.type(-1));
        due("18: above", BAD, x.type(128));
        due("18: far", BAD, x.type(Integer.MIN_VALUE));
        due("18: far", BAD, x.type(Integer.MAX_VALUE));
        for (int k = 1; k <= 120; k++) {
            due("18: how many", k, x.type(k == 1 ? 0 : 127));
        }
        due("18: full", FULL, x.type(32));
        due("18: bad ahead of full", BAD, x.type(128));
        due("18: bytes", 120, x.told(7));
        due("18: refused full", 1, x.told(2));
        due("18: no state", 0, x.told(8));
        due("19: how many it had", 120, x.clear());
        due("19: empty", 0, x.told(7));
        due("19: again", 0, x.clear());
        due("18: anew", 1, x.type(59));
        due("19: no state", 0, x.told(8));
    }

    private static void does() {
        PieceSwarm x = new PieceSwarm();
        type(x, "p 0 1;p0 2; s 0 4 ;g 0 0;g0 1;g 0 03;  g 0 2; r 08;");
        due("20: all", 8, x.does());
        due("20: T", 8, x.count(3));
        due("20: two peers", 2, x.count(0));
        due("20: cap", 2, x.of(1, 1));
        due("20: slots", 4, x.told(3));
        due("20: they share", 15, x.of(1, 2));
        due("20: one state", 1, x.told(8));
        due("20: the text stays", 51, x.told(7));
        type(x, "g 0 0;p 3 1;p 0 5;r 31;r 0;s 4 1;s 0 0;g 7 0;g 0 4;");
        due("20: all passed over", 0, x.does());
        due("20: a state all the same", 2, x.told(8));
        due("20: none refused", 0, x.told(0) + x.told(1) + x.told(2));
        type(x, "p0 1;p0 1;p0 1;p0 1;p0 1;p0 1;g5 0;");
        due("20: full is passed over", 5, x.does());
        due("20: no full", 0, x.told(2));
        type(x, "p 2 4;g 0 0;r 1;");
        due("20: the other one", 1, x.does());
        due("20: T once more", 9, x.count(3));
        due("21: back by whole texts", 3, x.back());
        due("21: T back", 8, x.count(3));
        due("21: six peers yet", 6, x.count(0));
        PieceSwarm y = new PieceSwarm();
        type(y, "p 2 1;g 0 0;");
        due("20: a gift to a liar", 1, y.does());
        due("20: no no", 0, y.told(1));
    }

    private static void doesFaults() {
        Object[][] rows = {
            {"", 0}, {" ", 1}, {"   ", 3}, {"p", 1}, {"p ", 2}, {"p0", 2}, {"p0 ", 3}, {"p0 1", 4}, {"p0 1 ", 5},
            {"r", 1}, {"r1", 2}, {"r1 ", 3}, {"x", 0}, {";", 0}, {" ;", 1}, {"1", 0}, {"P0 1;", 0}, {"b1 1;", 0},
            {"p;", 1}, {"p0;", 2}, {"p01;", 3}, {"p012;", 3}, {"p 0 1 2;", 6}, {"p 0 1  2;", 7}, {"p 0 123;", 6},
            {"p 123 1;", 4}, {"r 1 2;", 4}, {"r 123;", 4}, {"r 1 ;;", 5}, {"r 1;;", 4}, {"r1;x", 3}, {"r1;r", 4},
            {"r1; r1", 6}, {"r1;1", 3}, {"rr1;", 1}, {"r-1;", 1}, {"r+1;", 1}, {"r1,", 2}, {"r1.5;", 2},
            {"p0,1;", 2}, {"p0\t1;", 2}, {"r1\n;", 2}, {"r\u00001;", 1}, {"s 1\u007f2;", 3}, {"g/0 0;", 1},
            {"g:0 0;", 1}, {"q1;", 0}, {"g 0 0 g;", 6}, {"r1 r1;", 3}, {"R1;", 0},
        };
        PieceSwarm x = new PieceSwarm();
        for (Object[] row : rows) {
            type(x, (String) row[0]);
            due("20: fault of '" + row[0] + "'", -10 - (Integer) row[1], x.does());
        }
        type(x, "p 0 1;p 0 1;r 5;p 0;");
        due("20: a fault at the end", -10 - 19, x.does());
        due("20: nothing is done", 0, x.count(0) + x.count(3));
        due("20: no state by a fault", 0, x.told(8));
        due("20: a fault counts nothing", 0, x.told(0) + x.told(1) + x.told(2));
        String[] fine = {"r1;", " r1;", "r 1;", "r1 ;", "r1; ", "  r  01  ;  ", "s3 9;", "s 03 09 ;", "s3  9;"};
        for (String text : fine) {
            type(x, text);
            due("20: no fault in '" + text + "'", 1, x.does());
        }
    }

    private static void doesLongTexts() {
        PieceSwarm x = new PieceSwarm();
        StringBuilder text = new StringBuilder();
        for (int k = 0; k < 40; k++) {
            text.append("r1;");
        }
        type(x, text.toString());
        due("20: forty orders", 40, x.does());
        due("20: forty rounds", 40, x.count(3));
        text.setLength(117);
        text.append("r30");
        type(x, text.toString());
        due("20: the end of a full text", -130, x.does());
        text.setLength(117);
        text.append("   ");
        type(x, text.toString());
        due("20: blanks behind it", 39, x.does());
        x.clear();
        for (int k = 0; k < 120; k++) {
            x.type(32);
        }
        due("20: blanks alone", -130, x.does());
    }

    private static void back() {
        PieceSwarm x = honest(2, 2, 1, 1);
        giveAll(x, 0);
        x.type(65);
        long[] before = face(x);
        x.rounds(3);
        x.peer(9, 9);
        due("21: how many yet", 4, x.back());
        long[] behind = face(x);
        for (int k = 0; k < before.length; k++) {
            due("21: as before " + k, before[k], behind[k]);
        }
        due("21: refused ones stay", 1, x.told(0));
        due("21: the text stays", 1, x.told(7));
        x.rounds(1);
        long first = x.digest();
        x.back();
        x.rounds(1);
        due("21: the drawing came back", first, x.digest());
        for (int k = 4; k >= 0; k--) {
            due("21: down to " + k, k, x.back());
        }
        due("21: none", NO, x.back());
        due("21: refused", 1, x.told(1));
        due("21: the oldest is lost", 2, x.count(1));
        PieceSwarm y = new PieceSwarm();
        y.sets(0, 4);
        y.sets(1, 9);
        y.sets(2, 8);
        y.sets(3, 9);
        for (int k = 0; k < 4; k++) {
            y.back();
        }
        due("21: settings came back", 2523, y.told(3) * 1000 + y.told(4) * 100 + y.told(5) * 10 + y.told(6));
        y.peer(0, 1);
        y.begins(8, 4);
        due("21: a begin taken back", 1, y.back());
        due("21: the peer is there", 1, y.count(0));
        due("21: P", 4, y.count(1));
    }

    private static long[] face(PieceSwarm x) {
        long[] all = new long[400];
        int at = 0;
        for (int k = 0; k < 10; k++) {
            all[at++] = x.count(k);
        }
        for (int k = 3; k < 7; k++) {
            all[at++] = x.told(k);
        }
        for (int i = 0; i < x.count(0); i++) {
            for (int k = 0; k < 10; k++) {
                all[at++] = x.of(i, k);
            }
            for (int n = 0; n < x.count(1); n++) {
                for (int b = 0; b < x.count(2); b++) {
                    all[at++] = x.block(i, n, b);
                }
            }
            for (int j = 0; j < x.count(0); j++) {
                if (j != i) {
                    all[at++] = x.rate(i, j);
                    all[at++] = x.suspects(i, j);
                }
            }
        }
        return all;
    }

    private static void backForgetsTheOldest() {
        PieceSwarm x = new PieceSwarm();
        for (int k = 0; k < 23; k++) {
            x.rounds(1);
            due("21: states", Math.min(k + 1, 5), x.told(8));
        }
        for (int k = 0; k < 5; k++) {
            due("21: back", 4 - k, x.back());
            due("21: T", 22 - k, x.count(3));
        }
        due("21: older ones are lost", NO, x.back());
        due("21: T stays", 18, x.count(3));
        x.rounds(2);
        due("21: one again", 1, x.told(8));
        due("21: back again", 0, x.back());
        due("21: T again", 18, x.count(3));
    }

    private static void told() {
        PieceSwarm x = new PieceSwarm();
        due("22: no such", BAD, x.told(9));
        for (int far : FAR) {
            due("22: far", BAD, x.told(far));
        }
        x.back();
        x.finishes(1);
        for (int k = 0; k < 7; k++) {
            x.peer(2, 1);
        }
        x.sets(0, 3);
        x.sets(1, 4);
        x.sets(2, 7);
        x.sets(3, 6);
        x.type(1);
        x.type(2);
        int[] all = {5, 2, 1, 3, 4, 7, 6, 2, 5};
        for (int k = 0; k < all.length; k++) {
            due("22: told " + k, all[k], x.told(k));
        }
    }

    private static void digest() {
        PieceSwarm x = new PieceSwarm();
        due("23: a new object", digestOf(x), x.digest());
        x.begins(3, 3);
        x.peer(0, 2);
        x.peer(2, 1);
        x.peer(0, 3);
        x.peer(1, 4);
        x.peer(0, 1);
        giveAll(x, 2);
        x.peer(5, 5);
        x.type(7);
        for (int k = 0; k < 12; k++) {
            x.rounds(1);
            due("23: round " + k, digestOf(x), x.digest());
        }
        int states = x.told(8);
        long same = x.digest();
        due("23: it changes nothing", same, x.digest());
        due("23: no state", states, x.told(8));
    }

    private static long digestOf(PieceSwarm x) {
        long h = 2559;
        for (int k = 0; k <= 8; k++) {
            h = 31 * h + x.told(k);
        }
        for (int k = 0; k <= 9; k++) {
            h = 31 * h + x.count(k);
        }
        for (int i = 0; i < x.count(0); i++) {
            for (int k = 0; k <= 9; k++) {
                h = 31 * h + x.of(i, k);
            }
            for (int n = 0; n < x.count(1); n++) {
                for (int b = 0; b < x.count(2); b++) {
                    h = 31 * h + x.block(i, n, b);
                }
            }
            for (int j = 0; j < x.count(0); j++) {
                if (j != i) {
                    h = 31 * h + x.rate(i, j);
                    h = 31 * h + x.suspects(i, j);
                }
            }
        }
        h = 31 * h + x.spread();
        return 31 * h + x.fairness();
    }

    private static void constants() {
        due("face: NONE", NONE, PieceSwarm.NONE);
        due("face: BAD", BAD, PieceSwarm.BAD);
        due("face: NO", NO, PieceSwarm.NO);
        due("face: FULL", FULL, PieceSwarm.FULL);
    }
}
