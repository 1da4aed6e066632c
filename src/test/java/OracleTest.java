/** Long runs of mixed calls on CanBits and on SlowBus: both must answer alike, exceptions too. */
public final class OracleTest {
    private final CanBits fast = new CanBits();
    private final SlowBus slow = new SlowBus();
    private final String name;
    private long seed;
    private int nodeCount = 2;
    private int frameCount = 0;

    private OracleTest(String name, long seed) {
        this.name = name + " " + seed + ": ";
        this.seed = seed * 7919 + 17;
    }

    private int below(int n) {
        seed = seed * 6364136223846793005L + 1442695040888963407L;
        return (int) ((seed >>> 33) % n);
    }

    private int pick(int... of) {
        return of[below(of.length)];
    }

    private String both(String call, Due.Call a, Due.Call b) {
        String want = Due.answerOf(b);
        Due.same(name + call, want, Due.answerOf(a));
        return want;
    }

    private void nodes(int n) {
        String answer = both("nodes(" + n + ")", Due.valueOf(() -> fast.nodes(n)), Due.valueOf(() -> slow.nodes(n)));
        if (answer.equals("0")) {
            nodeCount = n;
            frameCount = 0;
        }
    }

    private void send(int node, int identifier, int kind, int length) {
        String call = "send(" + node + ", " + identifier + ", " + kind + ", " + length + ")";
        String answer = both(call, () -> fast.send(node, identifier, kind, length),
                () -> slow.send(node, identifier, kind, length));
        if (!answer.startsWith("throws")) {
            frameCount++;
        }
    }

    private void octet(int frame, int i, int b) {
        both("octet(" + frame + ", " + i + ", " + b + ")", Due.valueOf(() -> fast.octet(frame, i, b)),
                Due.valueOf(() -> slow.octet(frame, i, b)));
    }

    private void flip(int node, int at) {
        both("flip(" + node + ", " + at + ")", Due.valueOf(() -> fast.flip(node, at)),
                Due.valueOf(() -> slow.flip(node, at)));
    }

    private void filter(int node, int mask, int match) {
        both("filter(" + node + ", " + mask + ", " + match + ")", Due.valueOf(() -> fast.filter(node, mask, match)),
                Due.valueOf(() -> slow.filter(node, mask, match)));
    }

    private void run(int bits) {
        both("run(" + bits + ")", () -> fast.run(bits), () -> slow.run(bits));
        compareNodes();
    }

    private void compareNodes() {
        both("time()", fast::time, slow::time);
        for (int i = -1; i <= nodeCount; i++) {
            int node = i;
            both("state(" + node + ")", () -> fast.state(node), () -> slow.state(node));
            both("waiting(" + node + ")", () -> fast.waiting(node), () -> slow.waiting(node));
        }
    }

    private void compareAll() {
        compareNodes();
        for (int k = -1; k <= slow.time(); k++) {
            int i = k;
            both("bit(" + i + ")", () -> fast.bit(i), () -> slow.bit(i));
        }
        for (int k = 0; k < 6; k++) {
            int kind = below(5) - 1;
            int from = below(slow.time() + 3) - 1;
            int to = from + below(200) - 1;
            both("check(" + kind + ", " + from + ", " + to + ")", () -> fast.check(kind, from, to),
                    () -> slow.check(kind, from, to));
        }
        for (int k = -1; k <= frameCount; k++) {
            int frame = k;
            both("stuffed(" + frame + ")", () -> fast.stuffed(frame), () -> slow.stuffed(frame));
        }
        for (int what = -1; what <= 3; what++) {
            compareLists(what);
        }
        for (int node = -1; node <= nodeCount; node++) {
            compareTaken(node);
        }
    }

    private void compareLists(int what) {
        for (int k = -2; k <= slow.done(-1, 0); k++) {
            int i = k;
            both("done(" + i + ", " + what + ")", () -> fast.done(i, what), () -> slow.done(i, what));
        }
        for (int k = -2; k <= slow.error(-1, 0); k++) {
            int i = k;
            both("error(" + i + ", " + what + ")", () -> fast.error(i, what), () -> slow.error(i, what));
        }
    }

    private void compareTaken(int node) {
        int count = node < 0 || node >= nodeCount ? 0 : slow.taken(node, -1, 0);
        for (int k = -2; k <= count; k++) {
            int i = k;
            for (int w = -1; w <= 5; w++) {
                int what = w;
                both("taken(" + node + ", " + i + ", " + what + ")", () -> fast.taken(node, i, what),
                        () -> slow.taken(node, i, what));
            }
            int octets = i >= 0 && i < count ? slow.taken(node, i, 3) : 0;
            for (int w = -1; w <= octets; w++) {
                int octet = w;
                both("takenOctet(" + node + ", " + i + ", " + octet + ")", () -> fast.takenOctet(node, i, octet),
                        () -> slow.takenOctet(node, i, octet));
            }
        }
    }

    private int anIdentifier(int kind) {
        int few = pick(0, 1, 2, 5, 100, 101, 1023, 2046, 2047);
        if (!Rows.isLong(kind)) {
            return few;
        }
        return pick(few << 18, few << 18 | 1, few << 18 | 0x3FFFF, few, 0x1FFFFFFF, below(1 << 29));
    }

    private int anOctet() {
        return pick(0, 255, 1, 128, 170, 15, below(256));
    }

    private void sendAny() {
        int kind = below(6);
        int length = pick(0, 1, 2, 3, 8, 9, below(16));
        send(below(nodeCount), anIdentifier(kind), kind, length);
        int count = Rows.octets(kind, length);
        for (int i = 0; i < count; i++) {
            if (below(4) != 0) {
                octet(frameCount - 1, i, anOctet());
            }
        }
    }

    private void wrongCall() {
        switch (below(8)) {
            case 0:
                nodes(pick(33, -1, Integer.MIN_VALUE, Integer.MAX_VALUE));
                break;
            case 1:
                send(pick(-1, nodeCount, 0), pick(-1, 2048, 1 << 29, 3), pick(-1, 6, 0, 1), pick(-1, 16, 0));
                break;
            case 2:
                octet(pick(-1, frameCount, 0), pick(-1, 64, 8, 0), pick(-1, 256, 7));
                break;
            case 3:
                flip(pick(-1, nodeCount, 0), pick(-1, 20000, slow.time() - 1));
                break;
            case 4:
                filter(pick(-1, nodeCount), 0, 0);
                break;
            case 5:
                run(pick(-1, 20001, Integer.MAX_VALUE, Integer.MIN_VALUE));
                break;
            case 6:
                octet(below(frameCount + 1), below(3), below(256));
                break;
            default:
                compareNodes();
        }
    }

    private void mixed() {
        nodes(1 + below(5));
        for (int i = 0; i < 25; i++) {
            int what = below(12);
            if (what < 3) {
                sendAny();
            } else if (what < 6) {
                flip(below(nodeCount), slow.time() + below(130));
            } else if (what == 6) {
                filter(below(nodeCount), pick(0, 1, 7, -1, 2047), pick(0, 1, 5, 100, 2047));
            } else if (what == 7) {
                wrongCall();
            } else {
                run(below(pick(3, 60, 250)));
            }
        }
        compareAll();
    }

    private String anyRow() {
        int kind = below(6);
        int code = pick(0, 1, 2, 8, 9, 10, 11, below(16));
        int[] octets = new int[Rows.octets(kind, code)];
        for (int i = 0; i < octets.length; i++) {
            // Octets of many ones keep the flips few.
            octets[i] = pick(255, 254, 127, 170, anOctet());
        }
        StringBuilder body = new StringBuilder(Rows.body(anIdentifier(kind), kind, code, octets));
        if (below(2) == 0) {
            int at = pick(12, 15, 16, 17, 32, 34, 35, 36);
            if (at < body.length() && (Rows.isLong(kind) || at < 18)) {
                body.setCharAt(at, Rows.other(body.charAt(at)));
            }
        }
        String text = body.toString();
        String row = Rows.isFlexible(kind) ? Rows.flexible(text, octets.length) : Rows.classic(text);
        return row + Rows.TAIL;
    }

    private void feed() {
        nodes(1 + below(2));
        int node = below(nodeCount);
        if (below(4) == 0) {
            filter(node, pick(0, 1, 2047), pick(0, 1, 100, 2047));
        }
        int at = below(6);
        for (int n = 1 + below(3); n > 0; n--) {
            StringBuilder row = new StringBuilder(anyRow());
            for (int k = pick(0, 0, 1, 1, 2); k > 0; k--) {
                int change = pick(below(row.length()), row.length() - 1 - below(12));
                row.setCharAt(change, Rows.other(row.charAt(change)));
            }
            for (int i = 0; i < row.length(); i++) {
                if (row.charAt(i) == '0') {
                    flip(node, at + i);
                }
            }
            at += row.length() + below(5);
        }
        if (below(3) == 0) {
            sendAny();
        }
        run(at + 3);
        compareAll();
        run(below(100));
        compareAll();
    }

    private void crowd() {
        nodes(32);
        for (int i = 0; i < 45; i++) {
            sendAny();
        }
        for (int i = 0; i < 12; i++) {
            flip(below(32), slow.time() + below(900));
        }
        run(1000);
        compareAll();
    }

    public static void main(String[] args) {
        for (int i = 0; i < 700; i++) {
            new OracleTest("mixed", i).mixed();
        }
        for (int i = 0; i < 900; i++) {
            new OracleTest("fed", i).feed();
        }
        for (int i = 0; i < 12; i++) {
            new OracleTest("crowd", i).crowd();
        }
        Due.end();
    }
}
