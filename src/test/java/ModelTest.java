import java.util.ArrayList;
import java.util.Arrays;
import java.util.List;
import java.util.Random;
import java.util.regex.Matcher;
import java.util.regex.Pattern;

/**
 * Plays long drawn runs of calls on PieceSwarm and on a second, slow swarm that was
 * written straight from the document, and compares every answer and every digest.
 */
public final class ModelTest {
    private static int wrong = 0;

    public static void main(String[] args) {
        for (int seed = 1; seed <= 1500 && wrong == 0; seed++) {
            playRun(seed);
        }
        System.out.println(wrong == 0 ? "the model agrees" : "the model does not agree");
        if (wrong != 0) {
            System.exit(1);
        }
    }

    private static void playRun(int seed) {
        Random luck = new Random(seed);
        PieceSwarm real = new PieceSwarm();
        Model model = new Model();
        boolean wild = luck.nextInt(4) == 0;
        List<String> calls = new ArrayList<>();
        int liars = new int[] {0, 10, 40}[luck.nextInt(3)];
        int[][] opening = luck.nextInt(4) == 0 ? new int[0][] : drawOpening(luck, liars);
        for (int k = 0; k < 250; k++) {
            int[] call = k < opening.length ? opening[k] : drawCall(luck, model, wild, liars);
            if (call[0] == 20) {
                playText(luck, real, model, calls);
                k += 20;
            }
            calls.add(Arrays.toString(call));
            long got = real(real, call);
            long due = model.answer(call);
            long gotDigest = real.digest();
            long dueDigest = model.digest();
            if (got != due || gotDigest != dueDigest) {
                wrong++;
                System.out.println("seed " + seed + ", calls " + calls);
                System.out.println("answered " + got + ", due is " + due
                        + "; digest " + gotDigest + ", due is " + dueDigest);
                return;
            }
        }
    }

    private static int near(Random luck, int least, int most, boolean wild) {
        if (luck.nextInt(wild ? 6 : 60) == 0) {
            int[] edges = {least - 1, most + 1, -5, 99, Integer.MIN_VALUE, Integer.MAX_VALUE};
            return edges[luck.nextInt(edges.length)];
        }
        return least + luck.nextInt(most - least + 1);
    }

    private static int drawKind(Random luck, int liars) {
        return luck.nextInt(100) < liars ? 2 : luck.nextInt(6) == 0 ? 1 : 0;
    }

    /** A file, some peers, many slots and few gifts: a swarm in which much happens. */
    private static int[][] drawOpening(Random luck, int liars) {
        List<int[]> calls = new ArrayList<>();
        int pieces = 1 + luck.nextInt(8);
        int peers = 2 + luck.nextInt(5);
        calls.add(new int[] {2, pieces, 1 + luck.nextInt(4)});
        for (int i = 0; i < peers; i++) {
            calls.add(new int[] {3, drawKind(luck, liars), 1 + luck.nextInt(4)});
        }
        for (int n = 0; n < pieces; n++) {
            calls.add(new int[] {4, luck.nextInt(peers), n});
        }
        calls.add(new int[] {5, 0, 1 + luck.nextInt(4)});
        calls.add(new int[] {5, 1, luck.nextInt(10)});
        calls.add(new int[] {5, 2, luck.nextInt(9)});
        calls.add(new int[] {5, 3, 1 + luck.nextInt(9)});
        return calls.toArray(new int[0][]);
    }

    /** A call as its number in the face's order and its arguments. */
    private static int[] drawCall(Random luck, Model m, boolean wild, int liars) {
        int[] often = {2, 3, 4, 5, 6, 6, 6, 6, 6, 6, 6, 6, 6, 7, 8, 9, 10, 11, 12, 13,
            14, 15, 16, 17, 18, 19, 20, 21, 22};
        int which = often[luck.nextInt(often.length)];
        if (which == 2) {
            which = luck.nextInt(6) == 0 ? 2 : 6;
        }
        // Much that was taken back soon behind a new beginning: the old peers come into the places of new ones.
        if (m.now.turn == 0 && m.states.size() > 2 && luck.nextInt(3) == 0) {
            which = 21;
        }
        int lastPeer = Math.max(m.now.peers.size() - 1, 0);
        int peer = near(luck, 0, lastPeer, wild);
        int other = near(luck, 0, lastPeer, wild);
        int piece = near(luck, 0, m.now.pieces - 1, wild);
        switch (which) {
            case 2: return new int[] {2, near(luck, 1, 8, wild), near(luck, 1, 4, wild)};
            case 3: return new int[] {3, wild ? near(luck, 0, 2, true) : drawKind(luck, liars), near(luck, 1, 4, wild)};
            case 4: return new int[] {4, peer, piece};
            case 5: {
                int what = near(luck, 0, 3, wild);
                return new int[] {5, what, near(luck, 0, 9, true)};
            }
            case 6: return new int[] {6, luck.nextInt(3) != 0 ? 1 : near(luck, 1, 30, wild)};
            case 7: return new int[] {7, near(luck, 1, luck.nextInt(4) == 0 ? 90 : 5, wild)};
            case 8: return new int[] {8, peer, near(luck, 0, 9, wild)};
            case 9: return new int[] {9, peer, piece, near(luck, 0, m.now.blocks - 1, wild)};
            case 10: case 11: return new int[] {which, peer, other};
            case 12: case 14: return new int[] {which, which == 12 ? piece : peer};
            case 17: return new int[] {17, near(luck, 0, 9, wild)};
            case 18: return new int[] {18, near(luck, 0, 127, wild)};
            case 22: return new int[] {22, near(luck, 0, 8, wild)};
            default: return new int[] {which};
        }
    }

    private static void playText(Random luck, PieceSwarm real, Model model, List<String> calls) {
        StringBuilder text = new StringBuilder();
        int orders = luck.nextInt(9);
        for (int k = 0; k < orders; k++) {
            char letter = "pggrrs".charAt(luck.nextInt(6));
            text.append(blanks(luck)).append(letter).append(blanks(luck)).append(number(luck));
            if (letter != 'r') {
                text.append(' ').append(blanks(luck)).append(number(luck));
            }
            text.append(blanks(luck)).append(';');
        }
        text.append(blanks(luck));
        if (luck.nextInt(3) == 0 && text.length() > 0) {
            int at = luck.nextInt(text.length());
            switch (luck.nextInt(3)) {
                case 0: text.deleteCharAt(at); break;
                case 1: text.insert(at, "pgrs;0123456789 x\u0000\u007f".charAt(luck.nextInt(19))); break;
                default: text.setLength(at);
            }
        }
        if (luck.nextInt(3) != 0) {
            real.clear();
            model.answer(new int[] {19});
        }
        calls.add("text '" + text + "'");
        for (int at = 0; at < text.length(); at++) {
            int[] call = {18, text.charAt(at)};
            if (real(real, call) != model.answer(call)) {
                wrong++;
                System.out.println("type differs in " + calls);
            }
        }
    }

    private static String blanks(Random luck) {
        return luck.nextInt(4) == 0 ? "  ".substring(luck.nextInt(3)) : "";
    }

    private static String number(Random luck) {
        int n = luck.nextInt(3) == 0 ? luck.nextInt(100) : luck.nextInt(5);
        return luck.nextInt(6) == 0 && n < 10 ? "0" + n : "" + n;
    }

    private static long real(PieceSwarm x, int[] c) {
        switch (c[0]) {
            case 2: return x.begins(c[1], c[2]);
            case 3: return x.peer(c[1], c[2]);
            case 4: return x.gives(c[1], c[2]);
            case 5: return x.sets(c[1], c[2]);
            case 6: return x.rounds(c[1]);
            case 7: return x.finishes(c[1]);
            case 8: return x.of(c[1], c[2]);
            case 9: return x.block(c[1], c[2], c[3]);
            case 10: return x.rate(c[1], c[2]);
            case 11: return x.suspects(c[1], c[2]);
            case 12: return x.copies(c[1]);
            case 13: return x.rarest();
            case 14: return x.ratio(c[1]);
            case 15: return x.spread();
            case 16: return x.fairness();
            case 17: return x.count(c[1]);
            case 18: return x.type(c[1]);
            case 19: return x.clear();
            case 20: return x.does();
            case 21: return x.back();
            default: return x.told(c[1]);
        }
    }

    /** What a peer knows of one block. */
    private static final class Block {
        boolean got;
        int from;
        boolean isTrue;

        Block copy() {
            Block b = new Block();
            b.got = got;
            b.from = from;
            b.isTrue = isTrue;
            return b;
        }
    }

    private static final class Mate {
        int kind;
        int cap;
        int lucky = -1;
        int sent;
        int got;
        boolean[] whole = new boolean[8];
        Block[][] blocks = new Block[8][4];
        boolean[] opens = new boolean[6];
        boolean[] bars = new boolean[6];
        int[] suspects = new int[6];
        float[] rates = new float[6];

        Mate(int kind, int cap) {
            this.kind = kind;
            this.cap = cap;
            for (Block[] row : blocks) {
                for (int b = 0; b < 4; b++) {
                    row[b] = new Block();
                }
            }
        }

        Mate copy() {
            Mate m = new Mate(kind, cap);
            m.lucky = lucky;
            m.sent = sent;
            m.got = got;
            m.whole = whole.clone();
            for (int n = 0; n < 8; n++) {
                for (int b = 0; b < 4; b++) {
                    m.blocks[n][b] = blocks[n][b].copy();
                }
            }
            m.opens = opens.clone();
            m.bars = bars.clone();
            m.suspects = suspects.clone();
            m.rates = rates.clone();
            return m;
        }
    }

    private static final class World {
        int pieces = 4;
        int blocks = 2;
        int slots = 2;
        int fade = 5;
        int endgame = 2;
        int period = 3;
        int turn;
        int falseOnes;
        int cancelled;
        int dropped;
        long x = 1;
        List<Mate> peers = new ArrayList<>();

        World copy() {
            World w = new World();
            w.pieces = pieces;
            w.blocks = blocks;
            w.slots = slots;
            w.fade = fade;
            w.endgame = endgame;
            w.period = period;
            w.turn = turn;
            w.falseOnes = falseOnes;
            w.cancelled = cancelled;
            w.dropped = dropped;
            w.x = x;
            for (Mate m : peers) {
                w.peers.add(m.copy());
            }
            return w;
        }

        boolean claims(int i, int n) {
            return peers.get(i).kind == 2 || peers.get(i).whole[n];
        }

        boolean hasAll(int i) {
            for (int n = 0; n < pieces; n++) {
                if (!peers.get(i).whole[n]) {
                    return false;
                }
            }
            return true;
        }

        int copies(int n) {
            int c = 0;
            for (int i = 0; i < peers.size(); i++) {
                c += claims(i, n) ? 1 : 0;
            }
            return c;
        }

        int left(int i) {
            int c = 0;
            for (int n = 0; n < pieces; n++) {
                for (int b = 0; b < blocks; b++) {
                    c += !peers.get(i).whole[n] && !peers.get(i).blocks[n][b].got ? 1 : 0;
                }
            }
            return c;
        }

        boolean wants(int j, int i) {
            if (peers.get(j).kind == 2 || i == j || peers.get(j).bars[i] || peers.get(i).bars[j]) {
                return false;
            }
            for (int n = 0; n < pieces; n++) {
                if (claims(i, n) && !peers.get(j).whole[n]) {
                    return true;
                }
            }
            return false;
        }

        float worth(int i, int j) {
            return hasAll(i) || peers.get(i).kind == 2 ? peers.get(j).rates[i] : peers.get(i).rates[j];
        }

        void open(int i) {
            Mate me = peers.get(i);
            me.opens = new boolean[6];
            if (me.kind == 1) {
                return;
            }
            List<Integer> line = new ArrayList<>();
            for (int j = 0; j < peers.size(); j++) {
                if (wants(j, i)) {
                    line.add(j);
                }
            }
            line.sort((a, b) -> worth(i, a) != worth(i, b) ? (worth(i, a) > worth(i, b) ? -1 : 1) : a - b);
            int regular = Math.min(slots - 1, line.size());
            for (int k = 0; k < regular; k++) {
                me.opens[line.get(k)] = true;
            }
            List<Integer> rest = new ArrayList<>(line.subList(regular, line.size()));
            rest.sort(null);
            if (turn % period == 0 || !rest.contains(me.lucky)) {
                me.lucky = -1;
                if (!rest.isEmpty()) {
                    x = (x * 1103515245L + 12345L) % 2147483648L;
                    me.lucky = rest.get((int) (x / 65536 % rest.size()));
                }
            }
            if (me.lucky != -1) {
                me.opens[me.lucky] = true;
            }
        }

        int[] choose(int j, int i, boolean[][] asked) {
            Mate me = peers.get(j);
            int[] best = null;
            long bestKey = Long.MAX_VALUE;
            for (int n = 0; n < pieces; n++) {
                if (!claims(i, n) || me.whole[n]) {
                    continue;
                }
                boolean started = false;
                int free = -1;
                for (int b = blocks - 1; b >= 0; b--) {
                    if (me.blocks[n][b].got || asked[n][b]) {
                        started = true;
                    } else {
                        free = b;
                    }
                }
                long key = (started ? 0 : 10000) + 100 * copies(n) + n;
                if (free >= 0 && key < bestKey) {
                    bestKey = key;
                    best = new int[] {n, free};
                }
            }
            if (best != null || left(j) > endgame) {
                return best;
            }
            for (int n = 0; n < pieces; n++) {
                for (int b = 0; b < blocks; b++) {
                    if (claims(i, n) && !me.whole[n] && !me.blocks[n][b].got) {
                        return new int[] {n, b};
                    }
                }
            }
            return null;
        }

        void round() {
            int many = peers.size();
            for (int i = 0; i < many; i++) {
                open(i);
            }
            int[][][] asks = new int[many][many][];
            for (int j = 0; j < many; j++) {
                boolean[][] asked = new boolean[8][4];
                for (int i = 0; i < many; i++) {
                    if (peers.get(i).opens[j]) {
                        asks[i][j] = choose(j, i, asked);
                        if (asks[i][j] != null) {
                            asked[asks[i][j][0]][asks[i][j][1]] = true;
                        }
                    }
                }
            }
            int[][] came = new int[many][many];
            for (int i = 0; i < many; i++) {
                int now = 0;
                for (int j = 0; j < many; j++) {
                    if (asks[i][j] == null) {
                        continue;
                    }
                    int n = asks[i][j][0];
                    Block block = peers.get(j).blocks[n][asks[i][j][1]];
                    if (peers.get(j).whole[n] || block.got) {
                        cancelled++;
                    } else if (now < peers.get(i).cap) {
                        now++;
                        came[j][i]++;
                        peers.get(i).sent++;
                        peers.get(j).got++;
                        block.got = true;
                        block.from = i;
                        block.isTrue = peers.get(i).kind != 2;
                        falseOnes += block.isTrue ? 0 : 1;
                        look(j, n);
                    }
                }
            }
            for (int j = 0; j < many; j++) {
                for (int i = 0; i < many; i++) {
                    float[] rates = peers.get(j).rates;
                    rates[i] = rates[i] * (fade / 10f) + came[j][i];
                }
            }
            turn++;
        }

        void look(int j, int n) {
            Mate me = peers.get(j);
            boolean good = true;
            boolean[] senders = new boolean[6];
            int many = 0;
            for (int b = 0; b < blocks; b++) {
                Block block = me.blocks[n][b];
                if (!block.got) {
                    return;
                }
                good &= block.isTrue;
                if (!senders[block.from]) {
                    senders[block.from] = true;
                    many++;
                }
            }
            forget(me, n);
            if (good) {
                me.whole[n] = true;
                return;
            }
            dropped++;
            for (int i = 0; i < 6; i++) {
                if (senders[i]) {
                    me.suspects[i]++;
                    me.bars[i] |= many == 1 || me.suspects[i] >= 2;
                }
            }
        }

        void forget(Mate me, int n) {
            for (int b = 0; b < 4; b++) {
                me.blocks[n][b] = new Block();
            }
        }

        boolean finished() {
            for (int i = 0; i < peers.size(); i++) {
                if (peers.get(i).kind == 0 && !hasAll(i)) {
                    return false;
                }
            }
            return true;
        }
    }

    private static final class Model {
        private static final Pattern WHOLE =
                Pattern.compile("(?: *(?:[pgs] *[0-9]{1,2} +[0-9]{1,2}|r *[0-9]{1,2}) *;)+ *");
        private static final Pattern ORDER = Pattern.compile("([pgrs]) *([0-9]+)(?: +([0-9]+))? *;");

        World now = new World();
        List<World> states = new ArrayList<>();
        StringBuilder text = new StringBuilder();
        int[] refused = new int[3];

        /** Answers the call; refused calls and states are looked after here. */
        long answer(int[] c) {
            World before = now.copy();
            long answer = answerTo(c);
            boolean isState = c[0] >= 2 && c[0] <= 7 || c[0] == 20;
            boolean isRefused = c[0] != 15 && c[0] != 16 && c[0] != 10 && c[0] != 14 && c[0] != 8
                    ? answer <= -2 && answer >= -4 : isBadGetter(c);
            if (isRefused) {
                refused[(int) (-2 - answer)]++;
            } else if (isState && answer > -10) {
                states.add(before);
                if (states.size() > 5) {
                    states.remove(0);
                }
            }
            return answer;
        }

        private boolean peer(int i) {
            return i >= 0 && i < now.peers.size();
        }

        private boolean isBadGetter(int[] c) {
            return c[0] == 10 && (!peer(c[1]) || !peer(c[2]) || c[1] == c[2])
                    || (c[0] == 14 || c[0] == 8) && !peer(c[1])
                    || c[0] == 8 && (c[2] < 0 || c[2] > 9);
        }

        private long answerTo(int[] c) {
            switch (c[0]) {
                case 2: return begins(c[1], c[2]);
                case 3: return joins(c[1], c[2]);
                case 4: return gives(c[1], c[2]);
                case 5: return sets(c[1], c[2]);
                case 6: return rounds(c[1]);
                case 7: return finishes(c[1]);
                case 8: return isBadGetter(c) ? -2 : of(c[1], c[2]);
                case 9: return block(c[1], c[2], c[3]);
                case 10: return isBadGetter(c) ? -2 : Float.floatToRawIntBits(now.peers.get(c[1]).rates[c[2]]);
                case 11: return !peer(c[1]) || !peer(c[2]) || c[1] == c[2] ? -2 : now.peers.get(c[1]).suspects[c[2]];
                case 12: return c[1] < 0 || c[1] >= now.pieces ? -2 : now.copies(c[1]);
                case 13: return rarest();
                case 14: return isBadGetter(c) ? -2 : ratio(now.peers.get(c[1]));
                case 15: return spread();
                case 16: return fairness();
                case 17: return count(c[1]);
                case 18: return type(c[1]);
                case 19: return clear();
                case 20: return does();
                case 21: return back();
                default: return told(c[1]);
            }
        }

        private int begins(int p, int b) {
            if (p < 1 || p > 8 || b < 1 || b > 4) {
                return -2;
            }
            int were = now.peers.size();
            now = new World();
            now.pieces = p;
            now.blocks = b;
            return were;
        }

        private int joins(int kind, int cap) {
            if (kind < 0 || kind > 2 || cap < 1 || cap > 4) {
                return -2;
            }
            if (now.peers.size() == 6) {
                return -4;
            }
            now.peers.add(new Mate(kind, cap));
            return now.peers.size() - 1;
        }

        private int gives(int i, int n) {
            if (!peer(i) || n < 0 || n >= now.pieces) {
                return -2;
            }
            Mate m = now.peers.get(i);
            if (m.whole[n] || m.kind == 2) {
                return -3;
            }
            now.forget(m, n);
            m.whole[n] = true;
            int has = 0;
            for (boolean w : m.whole) {
                has += w ? 1 : 0;
            }
            return has;
        }

        private int sets(int what, int v) {
            int was;
            if (what == 0 && v >= 1 && v <= 4) {
                was = now.slots;
                now.slots = v;
            } else if (what == 1 && v >= 0 && v <= 9) {
                was = now.fade;
                now.fade = v;
            } else if (what == 2 && v >= 0 && v <= 8) {
                was = now.endgame;
                now.endgame = v;
            } else if (what == 3 && v >= 1 && v <= 9) {
                was = now.period;
                now.period = v;
            } else {
                was = -2;
            }
            return was;
        }

        private int rounds(int n) {
            if (n < 1 || n > 30) {
                return -2;
            }
            for (int k = 0; k < n; k++) {
                now.round();
            }
            return now.turn;
        }

        private int finishes(int n) {
            if (n < 1 || n > 90) {
                return -2;
            }
            if (now.peers.stream().noneMatch(m -> m.kind == 0)) {
                return -3;
            }
            int ran = 0;
            while (ran < n && !now.finished()) {
                now.round();
                ran++;
            }
            return now.finished() ? ran : -1;
        }

        private static int bits(boolean[] row) {
            int bits = 0;
            for (int k = 0; k < row.length; k++) {
                bits += row[k] ? 1 << k : 0;
            }
            return bits;
        }

        private int of(int i, int what) {
            Mate m = now.peers.get(i);
            boolean[] claims = new boolean[now.pieces];
            for (int n = 0; n < now.pieces; n++) {
                claims[n] = now.claims(i, n);
            }
            int[] all = {m.kind, m.cap, bits(m.whole), now.left(i), bits(m.opens), m.lucky, bits(m.bars),
                m.sent, m.got, bits(claims)};
            return all[what];
        }

        private int block(int i, int n, int b) {
            if (!peer(i) || n < 0 || n >= now.pieces || b < 0 || b >= now.blocks) {
                return -2;
            }
            Mate m = now.peers.get(i);
            return m.whole[n] ? 100 : m.blocks[n][b].got ? m.blocks[n][b].from : -1;
        }

        private int rarest() {
            for (int c = 1; c <= 6; c++) {
                for (int n = 0; n < now.pieces; n++) {
                    if (now.copies(n) == c) {
                        return n;
                    }
                }
            }
            return -1;
        }

        private static int ratio(Mate m) {
            return Float.floatToRawIntBits(m.got == 0 ? 0f : (float) m.sent / (float) m.got);
        }

        private int spread() {
            int all = 0;
            for (int n = 0; n < now.pieces; n++) {
                all += now.copies(n);
            }
            return Float.floatToRawIntBits((float) all / (float) now.pieces);
        }

        private long fairness() {
            double s = 0;
            double q = 0;
            for (Mate m : now.peers) {
                double u = m.sent;
                s = s + u;
                q = q + u * u;
            }
            return Double.doubleToRawLongBits(q == 0 ? 1 : s * s / ((double) now.peers.size() * q));
        }

        private int count(int what) {
            int sent = 0;
            int pairs = 0;
            for (Mate m : now.peers) {
                sent += m.sent;
                pairs += Integer.bitCount(bits(m.bars));
            }
            int[] all = {now.peers.size(), now.pieces, now.blocks, now.turn, sent, now.falseOnes, now.cancelled,
                now.dropped, pairs, now.finished() ? 1 : 0};
            return what < 0 || what > 9 ? -2 : all[what];
        }

        private int type(int c) {
            if (c < 0 || c > 127) {
                return -2;
            }
            if (text.length() == 120) {
                return -4;
            }
            text.append((char) c);
            return text.length();
        }

        private int clear() {
            int had = text.length();
            text.setLength(0);
            return had;
        }

        private int does() {
            if (!WHOLE.matcher(text).matches()) {
                for (int k = 1; k <= text.length(); k++) {
                    Matcher m = WHOLE.matcher(text.substring(0, k));
                    if (!m.matches() && !m.hitEnd()) {
                        return -10 - (k - 1);
                    }
                }
                return -10 - text.length();
            }
            int obeyed = 0;
            Matcher m = ORDER.matcher(text);
            while (m.find()) {
                int a = Integer.parseInt(m.group(2));
                int b = m.group(3) == null ? 0 : Integer.parseInt(m.group(3));
                int answer;
                switch (m.group(1)) {
                    case "p": answer = joins(a, b); break;
                    case "g": answer = gives(a, b); break;
                    case "r": answer = rounds(a); break;
                    default: answer = sets(a, b);
                }
                obeyed += answer >= 0 ? 1 : 0;
            }
            return obeyed;
        }

        private int back() {
            if (states.isEmpty()) {
                return -3;
            }
            now = states.remove(states.size() - 1);
            return states.size();
        }

        private int told(int what) {
            int[] all = {refused[0], refused[1], refused[2], now.slots, now.fade, now.endgame, now.period,
                text.length(), states.size()};
            return what < 0 || what > 8 ? -2 : all[what];
        }

        long digest() {
            List<Long> all = new ArrayList<>();
            for (int k = 0; k < 9; k++) {
                all.add((long) told(k));
            }
            for (int k = 0; k < 10; k++) {
                all.add((long) count(k));
            }
            for (int i = 0; i < now.peers.size(); i++) {
                for (int k = 0; k < 10; k++) {
                    all.add((long) of(i, k));
                }
                for (int n = 0; n < now.pieces; n++) {
                    for (int b = 0; b < now.blocks; b++) {
                        all.add((long) block(i, n, b));
                    }
                }
                for (int o = 0; o < now.peers.size(); o++) {
                    if (o != i) {
                        all.add((long) Float.floatToRawIntBits(now.peers.get(i).rates[o]));
                        all.add((long) now.peers.get(i).suspects[o]);
                    }
                }
            }
            all.add((long) spread());
            all.add(fairness());
            long h = 2559;
            for (long v : all) {
                h = 31 * h + v;
            }
            return h;
        }
    }
}
