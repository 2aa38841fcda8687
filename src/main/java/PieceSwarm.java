/**
 * A swarm of peers that share a file in pieces, round by round; see README.md.
 * Everything an object needs is made with it, so no call makes anything new.
 */
public final class PieceSwarm {
    public static final int NONE = -1, BAD = -2, NO = -3, FULL = -4;

    private static final int FINE = 0;
    private static final int HONEST = 0, MISER = 1, LIAR = 2;
    private static final int MOST_PEERS = 6, MOST_CAP = 4;
    private static final int MOST_PIECES = 8, MOST_BLOCKS = 4;
    private static final int MOST_STATES = 5;
    private static final int MOST_ROUNDS = 30, MOST_TO_FINISH = 90;
    private static final int WHOLE = 100;
    private static final int LAST_OF = 9, LAST_COUNT = 9, LAST_TOLD = 8;
    private static final int SLOTS = 0, FADE = 1, ENDGAME = 2, PERIOD = 3;
    private static final int[] LEAST_SETTING = {1, 0, 0, 1};
    private static final int[] MOST_SETTING = {4, 9, 8, 9};
    private static final int[] FIRST_SETTING = {2, 5, 2, 3};

    private final Swarm now;
    private final Swarm[] states;
    private final Round round;
    private final Text text;
    private int newest;
    private int kept;
    private int refusedBad;
    private int refusedNo;
    private int refusedFull;

    public PieceSwarm() {
        now = new Swarm();
        states = new Swarm[MOST_STATES];
        for (int k = 0; k < MOST_STATES; k++) {
            states[k] = new Swarm();
        }
        round = new Round();
        text = new Text();
    }

    // ---- the swarm

    public int begins(int p, int b) {
        if (p < 1 || p > MOST_PIECES || b < 1 || b > MOST_BLOCKS) {
            return refuse(BAD);
        }
        keepState();
        int before = now.size;
        now.startAnew(p, b);
        return before;
    }

    public int peer(int kind, int cap) {
        int why = now.refusesPeer(kind, cap);
        if (why != FINE) {
            return refuse(why);
        }
        keepState();
        return now.addPeer(kind, cap);
    }

    public int gives(int i, int n) {
        int why = now.refusesGift(i, n);
        if (why != FINE) {
            return refuse(why);
        }
        keepState();
        return now.takeGift(i, n);
    }

    public int sets(int what, int v) {
        int why = now.refusesSetting(what, v);
        if (why != FINE) {
            return refuse(why);
        }
        keepState();
        return now.changeSetting(what, v);
    }

    public int rounds(int n) {
        if (!areRounds(n)) {
            return refuse(BAD);
        }
        keepState();
        round.runSome(now, n);
        return now.turn;
    }

    public int finishes(int n) {
        if (n < 1 || n > MOST_TO_FINISH) {
            return refuse(BAD);
        }
        if (!now.hasHonest()) {
            return refuse(NO);
        }
        keepState();
        int ran = 0;
        for (int k = 0; k < n && !now.isFinished(); k++) {
            round.runSome(now, 1);
            ran++;
        }
        return now.isFinished() ? ran : NONE;
    }

    // ---- told

    public int of(int i, int what) {
        if (!now.isPeer(i) || what < 0 || what > LAST_OF) {
            return refuse(BAD);
        }
        return now.tellPeer(i, what);
    }

    public int block(int i, int n, int b) {
        if (!now.isPeer(i) || !now.isPiece(n) || b < 0 || b >= now.blocks) {
            return refuse(BAD);
        }
        return now.peers[i].sourceOf(n, b);
    }

    public int rate(int j, int i) {
        if (!now.isPair(j, i)) {
            return refuse(BAD);
        }
        return Bits.ofFloat(now.peers[j].rates[i]);
    }

    public int suspects(int j, int i) {
        if (!now.isPair(j, i)) {
            return refuse(BAD);
        }
        return now.peers[j].suspicions[i];
    }

    public int copies(int n) {
        if (!now.isPiece(n)) {
            return refuse(BAD);
        }
        return now.copiesOf(n);
    }

    public int rarest() {
        int best = NONE;
        int fewest = MOST_PEERS + 1;
        for (int n = 0; n < now.pieces; n++) {
            int there = now.copiesOf(n);
            if (there >= 1 && there < fewest) {
                best = n;
                fewest = there;
            }
        }
        return best;
    }

    public int ratio(int i) {
        if (!now.isPeer(i)) {
            return refuse(BAD);
        }
        Peer it = now.peers[i];
        if (it.got == 0) {
            return Bits.ofFloat(0f);
        }
        return Bits.ofFloat((float) it.sent / (float) it.got);
    }

    public int spread() {
        int all = 0;
        for (int n = 0; n < now.pieces; n++) {
            all += now.copiesOf(n);
        }
        return Bits.ofFloat((float) all / (float) now.pieces);
    }

    public long fairness() {
        double s = 0.0;
        double q = 0.0;
        for (int i = 0; i < now.size; i++) {
            double u = (double) now.peers[i].sent;
            s = s + u;
            q = q + u * u;
        }
        if (q == 0.0) {
            return Bits.ofDouble(1.0);
        }
        return Bits.ofDouble(s * s / ((double) now.size * q));
    }

    public int count(int what) {
        if (what < 0 || what > LAST_COUNT) {
            return refuse(BAD);
        }
        return now.tellCount(what);
    }

    // ---- texts

    public int type(int c) {
        if (c < 0 || c > 127) {
            return refuse(BAD);
        }
        if (text.length >= Text.MOST_BYTES) {
            return refuse(FULL);
        }
        text.append(c);
        return text.length;
    }

    public int clear() {
        int before = text.length;
        text.length = 0;
        return before;
    }

    public int does() {
        int fault = text.read();
        if (fault != NONE) {
            return -10 - fault;
        }
        keepState();
        int obeyed = 0;
        for (int k = 0; k < text.orders; k++) {
            if (obey(text.letters[k], text.firsts[k], text.seconds[k])) {
                obeyed++;
            }
        }
        return obeyed;
    }

    public int back() {
        if (kept == 0) {
            return refuse(NO);
        }
        now.copyFrom(states[newest]);
        newest = (newest + MOST_STATES - 1) % MOST_STATES;
        kept--;
        return kept;
    }

    public int told(int what) {
        if (what < 0 || what > LAST_TOLD) {
            return refuse(BAD);
        }
        switch (what) {
            case 0: return refusedBad;
            case 1: return refusedNo;
            case 2: return refusedFull;
            case 3: return now.settings[SLOTS];
            case 4: return now.settings[FADE];
            case 5: return now.settings[ENDGAME];
            case 6: return now.settings[PERIOD];
            case 7: return text.length;
            default: return kept;
        }
    }

    public long digest() {
        long h = 2559L;
        for (int what = 0; what <= LAST_TOLD; what++) {
            h = 31L * h + told(what);
        }
        for (int what = 0; what <= LAST_COUNT; what++) {
            h = 31L * h + count(what);
        }
        for (int i = 0; i < now.size; i++) {
            h = digestPeer(h, i);
        }
        h = 31L * h + spread();
        return 31L * h + fairness();
    }

    private long digestPeer(long before, int i) {
        long h = before;
        for (int what = 0; what <= LAST_OF; what++) {
            h = 31L * h + of(i, what);
        }
        for (int n = 0; n < now.pieces; n++) {
            for (int b = 0; b < now.blocks; b++) {
                h = 31L * h + block(i, n, b);
            }
        }
        for (int other = 0; other < now.size; other++) {
            if (other != i) {
                h = 31L * h + rate(i, other);
                h = 31L * h + suspects(i, other);
            }
        }
        return h;
    }

    private int refuse(int why) {
        if (why == BAD) {
            refusedBad++;
        } else if (why == NO) {
            refusedNo++;
        } else {
            refusedFull++;
        }
        return why;
    }

    private void keepState() {
        newest = (newest + 1) % MOST_STATES;
        states[newest].copyFrom(now);
        if (kept < MOST_STATES) {
            kept++;
        }
    }

    private static boolean areRounds(int n) {
        return n >= 1 && n <= MOST_ROUNDS;
    }

    /** Orders go past refuse() and keepState(): they count nothing and share one state. */
    private boolean obey(int letter, int first, int second) {
        switch (letter) {
            case 'p':
                if (now.refusesPeer(first, second) != FINE) {
                    return false;
                }
                now.addPeer(first, second);
                return true;
            case 'g':
                if (now.refusesGift(first, second) != FINE) {
                    return false;
                }
                now.takeGift(first, second);
                return true;
            case 's':
                if (now.refusesSetting(first, second) != FINE) {
                    return false;
                }
                now.changeSetting(first, second);
                return true;
            default:
                if (!areRounds(first)) {
                    return false;
                }
                round.runSome(now, first);
                return true;
        }
    }

    /** One peer. Sets of pieces and of peers are bits; the spot of a block is 4 * piece + block. */
    private static final class Peer {
        int kind;
        int cap;
        int has;
        int held;
        int opened;
        int lucky;
        int bars;
        int sent;
        int got;
        final int[] from;
        final int[] suspicions;
        final float[] rates;

        Peer() {
            from = new int[MOST_PIECES * MOST_BLOCKS];
            suspicions = new int[MOST_PEERS];
            rates = new float[MOST_PEERS];
        }

        void startAs(int itsKind, int itsCap) {
            kind = itsKind;
            cap = itsCap;
            has = 0;
            held = 0;
            opened = 0;
            lucky = NONE;
            bars = 0;
            sent = 0;
            got = 0;
            for (int i = 0; i < MOST_PEERS; i++) {
                suspicions[i] = 0;
                rates[i] = 0f;
            }
        }

        void copyFrom(Peer other) {
            kind = other.kind;
            cap = other.cap;
            has = other.has;
            held = other.held;
            opened = other.opened;
            lucky = other.lucky;
            bars = other.bars;
            sent = other.sent;
            got = other.got;
            System.arraycopy(other.from, 0, from, 0, from.length);
            System.arraycopy(other.suspicions, 0, suspicions, 0, suspicions.length);
            System.arraycopy(other.rates, 0, rates, 0, rates.length);
        }

        boolean hasPiece(int n) {
            return (has >> n & 1) != 0;
        }

        boolean holds(int spot) {
            return (held >>> spot & 1) != 0;
        }

        int sourceOf(int n, int b) {
            if (hasPiece(n)) {
                return WHOLE;
            }
            int spot = n * MOST_BLOCKS + b;
            return holds(spot) ? from[spot] : NONE;
        }

        void loseBlocks(int n) {
            held &= ~(15 << n * MOST_BLOCKS);
        }
    }

    /** All that a state holds: the file, the settings, the drawing, the peers, the sums. */
    private static final class Swarm {
        int pieces;
        int blocks;
        int allPieces;
        int allBlocks;
        int size;
        int turn;
        int falseSent;
        int cancelled;
        int dropped;
        long drawing;
        final int[] settings;
        final Peer[] peers;

        Swarm() {
            settings = new int[FIRST_SETTING.length];
            peers = new Peer[MOST_PEERS];
            for (int i = 0; i < MOST_PEERS; i++) {
                peers[i] = new Peer();
            }
            startAnew(4, 2);
        }

        void startAnew(int p, int b) {
            pieces = p;
            blocks = b;
            allPieces = (1 << p) - 1;
            allBlocks = (1 << b) - 1;
            size = 0;
            turn = 0;
            falseSent = 0;
            cancelled = 0;
            dropped = 0;
            drawing = 1L;
            for (int k = 0; k < settings.length; k++) {
                settings[k] = FIRST_SETTING[k];
            }
        }

        void copyFrom(Swarm other) {
            pieces = other.pieces;
            blocks = other.blocks;
            allPieces = other.allPieces;
            allBlocks = other.allBlocks;
            size = other.size;
            turn = other.turn;
            falseSent = other.falseSent;
            cancelled = other.cancelled;
            dropped = other.dropped;
            drawing = other.drawing;
            System.arraycopy(other.settings, 0, settings, 0, settings.length);
            for (int i = 0; i < other.size; i++) {
                peers[i].copyFrom(other.peers[i]);
            }
        }

        boolean isPeer(int i) {
            return i >= 0 && i < size;
        }

        boolean isPair(int j, int i) {
            return isPeer(j) && isPeer(i) && j != i;
        }

        boolean isPiece(int n) {
            return n >= 0 && n < pieces;
        }

        int refusesPeer(int kind, int cap) {
            if (kind < HONEST || kind > LIAR || cap < 1 || cap > MOST_CAP) {
                return BAD;
            }
            return size >= MOST_PEERS ? FULL : FINE;
        }

        int addPeer(int kind, int cap) {
            int number = size;
            peers[number].startAs(kind, cap);
            size++;
            return number;
        }

        int refusesGift(int i, int n) {
            if (!isPeer(i) || !isPiece(n)) {
                return BAD;
            }
            return peers[i].kind == LIAR || peers[i].hasPiece(n) ? NO : FINE;
        }

        int takeGift(int i, int n) {
            peers[i].loseBlocks(n);
            peers[i].has |= 1 << n;
            return Integer.bitCount(peers[i].has);
        }

        int refusesSetting(int what, int v) {
            if (what < 0 || what >= settings.length) {
                return BAD;
            }
            return v < LEAST_SETTING[what] || v > MOST_SETTING[what] ? BAD : FINE;
        }

        int changeSetting(int what, int v) {
            int before = settings[what];
            settings[what] = v;
            return before;
        }

        /** The next number drawn, below n, which is one or more. */
        int drawBelow(int n) {
            drawing = (drawing * 1103515245L + 12345L) % 2147483648L;
            return n < 1 ? 0 : (int) (drawing / 65536L % n);
        }

        int claimsOf(int i) {
            return peers[i].kind == LIAR ? allPieces : peers[i].has;
        }

        int copiesOf(int n) {
            int there = 0;
            for (int i = 0; i < size; i++) {
                there += claimsOf(i) >> n & 1;
            }
            return there;
        }

        int leftOf(Peer it) {
            int left = 0;
            for (int n = 0; n < pieces; n++) {
                if (!it.hasPiece(n)) {
                    left += blocks - Integer.bitCount(it.held >>> n * MOST_BLOCKS & allBlocks);
                }
            }
            return left;
        }

        boolean hasHonest() {
            for (int i = 0; i < size; i++) {
                if (peers[i].kind == HONEST) {
                    return true;
                }
            }
            return false;
        }

        boolean isFinished() {
            for (int i = 0; i < size; i++) {
                if (peers[i].kind == HONEST && peers[i].has != allPieces) {
                    return false;
                }
            }
            return true;
        }

        int tellPeer(int i, int what) {
            Peer it = peers[i];
            switch (what) {
                case 0: return it.kind;
                case 1: return it.cap;
                case 2: return it.has;
                case 3: return leftOf(it);
                case 4: return it.opened;
                case 5: return it.lucky;
                case 6: return it.bars;
                case 7: return it.sent;
                case 8: return it.got;
                default: return claimsOf(i);
            }
        }

        int tellCount(int what) {
            switch (what) {
                case 0: return size;
                case 1: return pieces;
                case 2: return blocks;
                case 3: return turn;
                case 4: return sentByAll();
                case 5: return falseSent;
                case 6: return cancelled;
                case 7: return dropped;
                case 8: return pairsThatBar();
                default: return isFinished() ? 1 : 0;
            }
        }

        int sentByAll() {
            int all = 0;
            for (int i = 0; i < size; i++) {
                all += peers[i].sent;
            }
            return all;
        }

        int pairsThatBar() {
            int all = 0;
            for (int i = 0; i < size; i++) {
                all += Integer.bitCount(peers[i].bars);
            }
            return all;
        }
    }

    /** One round from (a) to (e); its rows hold nothing that outlives the round. */
    private static final class Round {
        private final int[] wanters;
        private final int[] copiesThen;
        private final int[] asks;
        private final int[] came;

        Round() {
            wanters = new int[MOST_PEERS];
            copiesThen = new int[MOST_PIECES];
            asks = new int[MOST_PEERS * MOST_PEERS];
            came = new int[MOST_PEERS * MOST_PEERS];
        }

        void runSome(Swarm s, int n) {
            for (int k = 0; k < n; k++) {
                findWanters(s);
                openSlots(s);
                askForBlocks(s);
                sendBlocks(s);
                fadeRates(s);
                s.turn++;
            }
        }

        private void findWanters(Swarm s) {
            for (int i = 0; i < s.size; i++) {
                int bits = 0;
                for (int j = 0; j < s.size; j++) {
                    if (wants(s, j, i)) {
                        bits |= 1 << j;
                    }
                }
                wanters[i] = bits;
            }
        }

        private static boolean wants(Swarm s, int j, int i) {
            Peer asker = s.peers[j];
            if (i == j || asker.kind == LIAR) {
                return false;
            }
            if ((asker.bars >> i & 1) != 0 || (s.peers[i].bars >> j & 1) != 0) {
                return false;
            }
            return (s.claimsOf(i) & ~asker.has) != 0;
        }

        private void openSlots(Swarm s) {
            for (int i = 0; i < s.size; i++) {
                Peer it = s.peers[i];
                if (it.kind != MISER) {
                    int regular = pickRegular(s, i);
                    it.lucky = pickLucky(s, it, wanters[i] & ~regular);
                    it.opened = it.lucky < 0 ? regular : regular | 1 << it.lucky;
                }
            }
        }

        private int pickRegular(Swarm s, int i) {
            int regular = 0;
            for (int k = 1; k < s.settings[SLOTS]; k++) {
                int best = mostWorth(s, i, wanters[i] & ~regular);
                if (best >= 0) {
                    regular |= 1 << best;
                }
            }
            return regular;
        }

        private static int mostWorth(Swarm s, int i, int among) {
            int best = NONE;
            float most = 0f;
            for (int j = 0; j < s.size; j++) {
                if ((among >> j & 1) != 0) {
                    float worth = worthOf(s, i, j);
                    if (best < 0 || worth > most) {
                        best = j;
                        most = worth;
                    }
                }
            }
            return best;
        }

        /** One that needs nothing itself looks at how well the other one takes. */
        private static float worthOf(Swarm s, int i, int j) {
            Peer it = s.peers[i];
            boolean needsNothing = it.kind == LIAR || it.has == s.allPieces;
            return needsNothing ? s.peers[j].rates[i] : it.rates[j];
        }

        private static int pickLucky(Swarm s, Peer it, int among) {
            int period = s.settings[PERIOD];
            boolean mayStay = period > 0 && s.turn % period != 0;
            if (mayStay && it.lucky >= 0 && (among >> it.lucky & 1) != 0) {
                return it.lucky;
            }
            if (among == 0) {
                return NONE;
            }
            return pickNumber(among, s.drawBelow(Integer.bitCount(among)));
        }

        private static int pickNumber(int among, int number) {
            int passed = 0;
            for (int j = 0; j < MOST_PEERS; j++) {
                if ((among >> j & 1) != 0) {
                    if (passed == number) {
                        return j;
                    }
                    passed++;
                }
            }
            return NONE;
        }

        private void askForBlocks(Swarm s) {
            for (int n = 0; n < s.pieces; n++) {
                copiesThen[n] = s.copiesOf(n);
            }
            for (int j = 0; j < s.size; j++) {
                int asked = 0;
                for (int i = 0; i < s.size; i++) {
                    int spot = NONE;
                    if ((s.peers[i].opened >> j & 1) != 0) {
                        spot = chooseSpot(s, j, i, asked);
                    }
                    if (spot >= 0) {
                        asked |= 1 << spot;
                    }
                    asks[i * MOST_PEERS + j] = spot;
                }
            }
        }

        private int chooseSpot(Swarm s, int j, int i, int asked) {
            Peer asker = s.peers[j];
            int open = s.claimsOf(i) & ~asker.has;
            int taken = asker.held | asked;
            int n = rarestFree(s, open, taken);
            if (n >= 0) {
                return leastMissing(s, n, taken);
            }
            if (s.leftOf(asker) > s.settings[ENDGAME]) {
                return NONE;
            }
            n = leastFree(s, open, asker.held);
            return n >= 0 ? leastMissing(s, n, asker.held) : NONE;
        }

        private int rarestFree(Swarm s, int open, int taken) {
            int best = NONE;
            boolean bestStarted = false;
            for (int n = 0; n < s.pieces; n++) {
                if ((open >> n & 1) != 0 && hasMissing(s, n, taken)) {
                    boolean started = (taken >>> n * MOST_BLOCKS & s.allBlocks) != 0;
                    if (best < 0 || started && !bestStarted
                            || started == bestStarted && copiesThen[n] < copiesThen[best]) {
                        best = n;
                        bestStarted = started;
                    }
                }
            }
            return best;
        }

        private static int leastFree(Swarm s, int open, int taken) {
            for (int n = 0; n < s.pieces; n++) {
                if ((open >> n & 1) != 0 && hasMissing(s, n, taken)) {
                    return n;
                }
            }
            return NONE;
        }

        private static boolean hasMissing(Swarm s, int n, int taken) {
            return (taken >>> n * MOST_BLOCKS & s.allBlocks) != s.allBlocks;
        }

        private static int leastMissing(Swarm s, int n, int taken) {
            for (int b = 0; b < s.blocks; b++) {
                int spot = n * MOST_BLOCKS + b;
                if ((taken >>> spot & 1) == 0) {
                    return spot;
                }
            }
            return NONE;
        }

        private void sendBlocks(Swarm s) {
            for (int k = 0; k < came.length; k++) {
                came[k] = 0;
            }
            for (int i = 0; i < s.size; i++) {
                int sentNow = 0;
                for (int j = 0; j < s.size; j++) {
                    int spot = asks[i * MOST_PEERS + j];
                    if (spot < 0) {
                        continue;
                    }
                    Peer asker = s.peers[j];
                    if (asker.hasPiece(spot / MOST_BLOCKS) || asker.holds(spot)) {
                        s.cancelled++;
                    } else if (sentNow < s.peers[i].cap) {
                        sentNow++;
                        sendOne(s, i, j, spot);
                    }
                }
            }
        }

        private void sendOne(Swarm s, int i, int j, int spot) {
            Peer sender = s.peers[i];
            Peer asker = s.peers[j];
            int n = spot / MOST_BLOCKS;
            sender.sent++;
            if (sender.kind == LIAR) {
                s.falseSent++;
            }
            asker.got++;
            asker.held |= 1 << spot;
            asker.from[spot] = i;
            came[j * MOST_PEERS + i]++;
            if (!hasMissing(s, n, asker.held)) {
                lookAt(s, asker, n);
            }
        }

        /** A block is false just if a liar sent it, and kinds never change. */
        private static void lookAt(Swarm s, Peer asker, int n) {
            int senders = 0;
            boolean allTrue = true;
            for (int b = 0; b < s.blocks; b++) {
                int i = asker.from[n * MOST_BLOCKS + b];
                senders |= 1 << i;
                allTrue = allTrue && s.peers[i].kind != LIAR;
            }
            asker.loseBlocks(n);
            if (allTrue) {
                asker.has |= 1 << n;
            } else {
                s.dropped++;
                suspectAll(s, asker, senders);
            }
        }

        private static void suspectAll(Swarm s, Peer asker, int senders) {
            boolean alone = (senders & senders - 1) == 0;
            for (int i = 0; i < s.size; i++) {
                if ((senders >> i & 1) != 0) {
                    asker.suspicions[i]++;
                    if (alone || asker.suspicions[i] >= 2) {
                        asker.bars |= 1 << i;
                    }
                }
            }
        }

        private void fadeRates(Swarm s) {
            float stays = (float) s.settings[FADE] / 10f;
            for (int j = 0; j < s.size; j++) {
                float[] rates = s.peers[j].rates;
                for (int i = 0; i < s.size; i++) {
                    if (i != j) {
                        rates[i] = rates[i] * stays + (float) came[j * MOST_PEERS + i];
                    }
                }
            }
        }
    }

    /** The text and, once it has been read without a fault, its orders. */
    private static final class Text {
        static final int MOST_BYTES = 120;
        // The shortest order, such as r1; has three bytes.
        private static final int MOST_ORDERS = MOST_BYTES / 3;

        int length;
        int orders;
        final int[] letters;
        final int[] firsts;
        final int[] seconds;
        private final int[] bytes;
        private int lacking;
        private int figures;
        private boolean inOrder;

        Text() {
            bytes = new int[MOST_BYTES];
            letters = new int[MOST_ORDERS];
            firsts = new int[MOST_ORDERS];
            seconds = new int[MOST_ORDERS];
        }

        void append(int c) {
            if (length < MOST_BYTES) {
                bytes[length] = c;
                length++;
            }
        }

        /** The place of the fault, or NONE. */
        int read() {
            orders = 0;
            inOrder = false;
            for (int at = 0; at < length; at++) {
                if (!takes(bytes[at])) {
                    return at;
                }
            }
            return inOrder || orders == 0 ? length : NONE;
        }

        private boolean takes(int c) {
            if (c == ' ') {
                figures = 0;
                return true;
            }
            if (!inOrder) {
                return takesLetter(c);
            }
            if (c >= '0' && c <= '9') {
                return takesFigure(c - '0');
            }
            if (c != ';' || lacking > 0) {
                return false;
            }
            inOrder = false;
            orders++;
            return true;
        }

        private boolean takesLetter(int c) {
            if (c != 'p' && c != 'g' && c != 'r' && c != 's' || orders >= MOST_ORDERS) {
                return false;
            }
            letters[orders] = c;
            firsts[orders] = 0;
            seconds[orders] = 0;
            lacking = c == 'r' ? 1 : 2;
            figures = 0;
            inOrder = true;
            return true;
        }

        private boolean takesFigure(int figure) {
            if (figures == 0) {
                if (lacking == 0) {
                    return false;
                }
                lacking--;
            } else if (figures == 2) {
                return false;
            }
            figures++;
            boolean second = letters[orders] != 'r' && lacking == 0;
            int[] row = second ? seconds : firsts;
            row[orders] = row[orders] * 10 + figure;
            return true;
        }
    }

    /** The bits of floats and doubles by arithmetic alone. */
    private static final class Bits {
        /** For a float of 0 or more: rates that fade for long come down to the smallest ones. */
        static int ofFloat(float value) {
            if (!(value > 0f)) {
                return 0;
            }
            float v = value;
            int power = 127;
            for (int k = 0; k < 127 && v >= 2f; k++) {
                v = v / 2f;
                power++;
            }
            for (int k = 0; k < 126 && v < 1f; k++) {
                v = v * 2f;
                power--;
            }
            // Below 1 even now: too small for a power of its own.
            if (v < 1f) {
                return (int) (v * 8388608f);
            }
            return (power << 23) + (int) ((v - 1f) * 8388608f);
        }

        /** For fairness alone, which is never above 1, and never below 1 by 6. */
        static long ofDouble(double value) {
            double v = value;
            long power = 1023L;
            for (int k = 0; k < 1022 && v < 1.0; k++) {
                v = v * 2.0;
                power--;
            }
            return (power << 52) + (long) ((v - 1.0) * 4503599627370496.0);
        }
    }
}
