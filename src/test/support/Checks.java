import java.util.function.IntSupplier;

/** What the tests share: counting what is wrong, making swarms, and looking at what a call left as it was. */
class Checks {
    static final int NONE = -1;
    static final int BAD = -2;
    static final int NO = -3;
    static final int FULL = -4;
    static final int[] FAR = {Integer.MIN_VALUE, -1, 1000, Integer.MAX_VALUE};

    private static final int MOST_STATES = 5;

    private static int wrong = 0;
    private static int checks = 0;
    private static String sentence = "";

    /** The sentence of the document that the checks behind this call look at. */
    static void says(String words) {
        sentence = words + " | ";
    }

    static void due(String what, long want, long got) {
        checks++;
        if (got != want) {
            wrong++;
            System.out.println(sentence + what + ": answered " + got + ", due is " + want);
        }
    }

    static void endWithExitCode() {
        System.out.println(checks + " checks, " + wrong + " wrong");
        if (wrong != 0) {
            System.exit(1);
        }
    }

    static int bits(float f) {
        return Float.floatToIntBits(f);
    }

    static long bits(double d) {
        return Double.doubleToLongBits(d);
    }

    /** A swarm of the file p, b with honest peers of these caps. */
    static PieceSwarm honest(int p, int b, int... caps) {
        PieceSwarm x = new PieceSwarm();
        x.begins(p, b);
        for (int cap : caps) {
            x.peer(0, cap);
        }
        return x;
    }

    /** Peers as "H1 M2 L4" (kind and cap), gifts as "00 12" (peer and piece). */
    static PieceSwarm swarm(int p, int b, String peers, String gifts) {
        PieceSwarm x = new PieceSwarm();
        x.begins(p, b);
        for (String one : peers.split(" ")) {
            x.peer("HML".indexOf(one.charAt(0)), one.charAt(1) - '0');
        }
        for (String one : gifts.split(" ")) {
            if (!one.isEmpty()) {
                x.gives(one.charAt(0) - '0', one.charAt(1) - '0');
            }
        }
        return x;
    }

    static void giveAll(PieceSwarm x, int i) {
        int pieces = x.count(1);
        for (int n = 0; n < pieces; n++) {
            x.gives(i, n);
        }
    }

    static void type(PieceSwarm x, String text) {
        x.clear();
        for (int at = 0; at < text.length(); at++) {
            x.type(text.charAt(at));
        }
    }

    static long nextDrawing(long x) {
        return (x * 1103515245L + 12345L) % 2147483648L;
    }

    /** The digest without how often calls were refused, which is told(0) to told(2), its first three numbers. */
    static long plainDigest(PieceSwarm x) {
        int peers = x.count(0);
        int numbers = 9 + 10 + peers * (10 + x.count(1) * x.count(2) + 2 * Math.max(peers - 1, 0)) + 2;
        long h = x.digest();
        for (int k = 0; k < 3; k++) {
            h -= x.told(k) * power31(numbers - 1 - k);
        }
        return h;
    }

    private static long power31(int n) {
        long power = 1;
        for (int k = 0; k < n; k++) {
            power *= 31;
        }
        return power;
    }

    /** The call is refused by this number, which is counted once, and all else is as it was. */
    static void refused(String what, PieceSwarm x, int why, IntSupplier call) {
        long before = plainDigest(x);
        int[] often = {x.told(0), x.told(1), x.told(2)};
        due(what, why, call.getAsInt());
        for (int k = 0; k < often.length; k++) {
            due(what + ", then told " + k, often[k] + (why == BAD - k ? 1 : 0), x.told(k));
        }
        due(what + ", then all else", before, plainDigest(x));
    }

    /** The call answers this, is not refused, and leaves a state. */
    static void leavesState(String what, PieceSwarm x, int want, IntSupplier call) {
        int refused = x.told(0) + x.told(1) + x.told(2);
        int states = Math.min(x.told(8) + 1, MOST_STATES);
        due(what, want, call.getAsInt());
        due(what + ", then states", states, x.told(8));
        due(what + ", then refused", refused, x.told(0) + x.told(1) + x.told(2));
    }

    /** The call answers this, is not refused, leaves no state, and all is as it was. */
    static void changesNothing(String what, PieceSwarm x, int want, IntSupplier call) {
        long before = x.digest();
        due(what, want, call.getAsInt());
        due(what + ", then all", before, x.digest());
    }
}
