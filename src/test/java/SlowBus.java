import java.util.ArrayList;
import java.util.List;

/**
 * The document's bus once more, in the slowest and plainest way: a node keeps the text of all that it saw of
 * a frame and reads it from its first bit on at every bit.
 */
final class SlowBus {
    private static final class Sent {
        int number;
        int node;
        int identifier;
        int kind;
        int code;
        int[] octets;
        boolean done;

        String plain() {
            return Rows.plain(identifier, kind, code, octets);
        }

        String row() {
            return Rows.row(identifier, kind, code, octets);
        }
    }

    /** What a text of bits is as a frame, and what its last bit brings. */
    private static final class Heard {
        int event = -1;
        boolean acknowledge;
        boolean taken;
        boolean ended;
        int identifier;
        int kind;
        int code;
        List<Integer> octets = new ArrayList<>();
        int time;
    }

    private static final class Member {
        String state = "QUIET";
        int left;
        int mask;
        int match;
        Sent sending;
        String row;
        StringBuilder seen = new StringBuilder();
        List<Heard> taken = new ArrayList<>();
    }

    private static final List<String> STATES =
            List.of("QUIET", "SENDING", "LISTENING", "FLAGGING", "WAITING", "CLEARING", "PAUSING");

    private final List<Member> members = new ArrayList<>();
    private final List<Sent> frames = new ArrayList<>();
    private final List<int[]> done = new ArrayList<>();
    private final List<int[]> errors = new ArrayList<>();
    private final StringBuilder bus = new StringBuilder();
    private final boolean[][] flips = new boolean[32][20000];

    SlowBus() {
        nodes(2);
    }

    void nodes(int nodes) {
        if (nodes > 32) {
            throw new IllegalArgumentException();
        }
        if (nodes < 0) {
            throw new NegativeArraySizeException();
        }
        members.clear();
        for (int i = 0; i < nodes; i++) {
            members.add(new Member());
        }
        frames.clear();
        done.clear();
        errors.clear();
        bus.setLength(0);
        for (boolean[] row : flips) {
            java.util.Arrays.fill(row, false);
        }
    }

    private static void need(boolean there) {
        if (!there) {
            throw new IndexOutOfBoundsException();
        }
    }

    private static void fit(boolean right) {
        if (!right) {
            throw new IllegalArgumentException();
        }
    }

    private Member member(int node) {
        need(node >= 0 && node < members.size());
        return members.get(node);
    }

    int send(int node, int identifier, int kind, int length) {
        member(node);
        fit(kind >= 0 && kind <= 5);
        fit(identifier >= 0 && identifier < 1L << (Rows.isLong(kind) ? 29 : 11));
        fit(length >= 0 && length <= 15);
        if (frames.size() == 200) {
            throw new IllegalStateException();
        }
        Sent frame = new Sent();
        frame.number = frames.size();
        frame.node = node;
        frame.identifier = identifier;
        frame.kind = kind;
        frame.code = length;
        frame.octets = new int[Rows.octets(kind, length)];
        frames.add(frame);
        return frame.number;
    }

    void octet(int frame, int i, int b) {
        need(frame >= 0 && frame < frames.size());
        Sent sent = frames.get(frame);
        need(i >= 0 && i < sent.octets.length);
        fit(b >= 0 && b <= 255);
        Member sender = members.get(sent.node);
        if (sent.done || sender.state.equals("SENDING") && sender.sending == sent) {
            throw new IllegalStateException();
        }
        sent.octets[i] = b;
    }

    int stuffed(int frame) {
        need(frame >= 0 && frame < frames.size());
        return frames.get(frame).row().length();
    }

    void filter(int node, int mask, int match) {
        member(node).mask = mask;
        members.get(node).match = match;
    }

    void flip(int node, int at) {
        member(node);
        fit(at >= time() && at <= 19999);
        flips[node][at] = true;
    }

    int run(int bits) {
        fit(bits >= 0);
        if ((long) time() + bits > 20000) {
            throw new IllegalStateException();
        }
        int before = done.size();
        for (int i = 0; i < bits; i++) {
            step();
        }
        return done.size() - before;
    }

    int time() {
        return bus.length();
    }

    int bit(int i) {
        if (i < 0 || i >= time()) {
            throw new ArrayIndexOutOfBoundsException();
        }
        return bus.charAt(i) - '0';
    }

    int check(int kind, int from, int to) {
        fit(kind >= 0 && kind <= 2);
        need(from >= 0 && from <= to && to <= time());
        return Integer.parseInt(Rows.check(new int[] {15, 17, 21}[kind], bus.substring(from, to)), 2);
    }

    int state(int node) {
        return STATES.indexOf(member(node).state);
    }

    int waiting(int node) {
        member(node);
        return (int) frames.stream().filter(f -> f.node == node && !f.done).count();
    }

    int done(int i, int what) {
        return told(done, i, what, 2);
    }

    int taken(int node, int i, int what) {
        List<Heard> taken = member(node).taken;
        if (i == -1 && what == 0) {
            return taken.size();
        }
        need(i >= 0 && i < taken.size());
        fit(what >= 0 && what <= 4);
        Heard heard = taken.get(i);
        return new int[] {heard.identifier, heard.kind, heard.code, heard.octets.size(), heard.time}[what];
    }

    int takenOctet(int node, int i, int k) {
        List<Heard> taken = member(node).taken;
        need(i >= 0 && i < taken.size());
        need(k >= 0 && k < taken.get(i).octets.size());
        return taken.get(i).octets.get(k);
    }

    int error(int i, int what) {
        return told(errors, i, what, 3);
    }

    private static int told(List<int[]> list, int i, int what, int columns) {
        if (i == -1 && what == 0) {
            return list.size();
        }
        need(i >= 0 && i < list.size());
        fit(what >= 0 && what < columns);
        return list.get(i)[what];
    }

    private Sent first(int node) {
        Sent first = null;
        for (Sent frame : frames) {
            if (frame.node == node && !frame.done && (first == null || frame.plain().compareTo(first.plain()) < 0)) {
                first = frame;
            }
        }
        return first;
    }

    private void step() {
        char level = '1';
        char[] put = new char[members.size()];
        for (int i = 0; i < members.size(); i++) {
            put[i] = put(i, members.get(i));
            if (put[i] == '0') {
                level = '0';
            }
        }
        int now = time();
        bus.append(level);
        for (int i = 0; i < members.size(); i++) {
            char seen = flips[i][now] ? Rows.other(level) : level;
            see(i, members.get(i), put[i], seen, now);
        }
    }

    private char put(int node, Member member) {
        if (member.state.equals("QUIET")) {
            Sent first = first(node);
            if (first == null) {
                return '1';
            }
            startSending(member, first);
        }
        switch (member.state) {
            case "SENDING":
                return member.row.charAt(member.seen.length());
            case "LISTENING":
                return judge(member.seen).acknowledge ? '0' : '1';
            case "FLAGGING":
                return '0';
            default:
                return '1';
        }
    }

    private static void startSending(Member member, Sent first) {
        member.state = "SENDING";
        member.sending = first;
        member.row = first.row();
        member.seen.setLength(0);
    }

    private void see(int node, Member member, char put, char seen, int now) {
        switch (member.state) {
            case "QUIET":
                if (seen == '0') {
                    listen(member);
                }
                break;
            case "SENDING":
                seeSending(node, member, put, seen, now);
                break;
            case "LISTENING":
                member.seen.append(seen);
                seeListening(node, member, now);
                break;
            case "FLAGGING":
                member.left--;
                if (member.left == 0) {
                    member.state = "WAITING";
                }
                break;
            case "WAITING":
                if (seen == '1') {
                    member.state = "CLEARING";
                    member.left = 7;
                }
                break;
            case "CLEARING":
                if (seen == '0') {
                    fail(node, member, member.left == 1 ? 5 : 2, now);
                } else if (--member.left == 0) {
                    pause(member);
                }
                break;
            default:
                seePausing(node, member, seen, now);
        }
    }

    private static void listen(Member member) {
        member.state = "LISTENING";
        member.seen.setLength(0);
        member.seen.append('0');
    }

    private static void pause(Member member) {
        member.state = "PAUSING";
        member.left = 3;
    }

    private void fail(int node, Member member, int kind, int now) {
        errors.add(new int[] {kind, node, now});
        member.state = "FLAGGING";
        member.left = 6;
    }

    /** The places in a row of the plain bits of the arbitration. */
    private static boolean arbitrates(Sent frame, String row, int place) {
        int plain = 0;
        StringBuilder before = new StringBuilder();
        for (int i = 0; i <= place; i++) {
            boolean isStuff = Rows.endsInFive(before, 0);
            if (i == place) {
                return !isStuff && plain <= (Rows.isLong(frame.kind) ? 32 : 13);
            }
            if (!isStuff) {
                plain++;
            }
            before.append(row.charAt(i));
        }
        return false;
    }

    private void seeSending(int node, Member member, char put, char seen, int now) {
        int place = member.seen.length();
        member.seen.append(seen);
        boolean atAcknowledge = place == member.row.length() - 9;
        if (put == '1' && seen == '0' && place < 60 && arbitrates(member.sending, member.row, place)) {
            member.state = "LISTENING";
            seeListening(node, member, now);
        } else if (atAcknowledge ? seen == '1' : seen != put) {
            fail(node, member, atAcknowledge ? 4 : 0, now);
        } else if (member.seen.length() == member.row.length()) {
            member.sending.done = true;
            done.add(new int[] {member.sending.number, now});
            pause(member);
        }
    }

    private void seeListening(int node, Member member, int now) {
        Heard heard = judge(member.seen);
        if (heard.event >= 0) {
            fail(node, member, heard.event, now);
        } else if (heard.taken && (heard.identifier & member.mask) == member.match) {
            heard.time = now;
            member.taken.add(heard);
        } else if (heard.ended) {
            pause(member);
        }
    }

    private void seePausing(int node, Member member, char seen, int now) {
        member.left--;
        if (seen == '0' && member.left > 0) {
            fail(node, member, 5, now);
        } else if (member.left == 0 && seen == '1') {
            member.state = "QUIET";
        } else if (member.left == 0 && first(node) != null) {
            startSending(member, first(node));
            member.seen.append('0');
        } else if (member.left == 0) {
            listen(member);
        }
    }

    private static boolean isLong(CharSequence plain) {
        return plain.length() > 13 && plain.charAt(13) == '1';
    }

    private static boolean isFlexible(CharSequence plain) {
        int at = isLong(plain) ? 33 : 14;
        return plain.length() > at && plain.charAt(at) == '1';
    }

    private static int headLength(CharSequence plain) {
        return isLong(plain) ? (isFlexible(plain) ? 41 : 39) : isFlexible(plain) ? 22 : 19;
    }

    private static int kind(CharSequence plain) {
        int kind = isLong(plain) ? 1 : 0;
        if (isFlexible(plain)) {
            return kind + 2;
        }
        return plain.charAt(isLong(plain) ? 32 : 12) == '1' ? kind + 4 : kind;
    }

    private static int code(CharSequence plain) {
        int end = headLength(plain);
        return Integer.parseInt(plain.subSequence(end - 4, end).toString(), 2);
    }

    /** How many plain bits the frame has, -1 if that is not yet known. */
    private static int plainLength(CharSequence plain) {
        int head = headLength(plain);
        if (plain.length() < 15 || plain.length() < head) {
            return -1;
        }
        return head + 8 * Rows.octets(kind(plain), code(plain)) + (isFlexible(plain) ? 0 : 15);
    }

    private static Heard judge(CharSequence seen) {
        Heard heard = new Heard();
        StringBuilder plain = new StringBuilder();
        StringBuilder all = new StringBuilder();
        int i = 0;
        while (true) {
            boolean whole = plain.length() == plainLength(plain);
            boolean isStuff = Rows.endsInFive(all, 0);
            if (whole && (isFlexible(plain) || !isStuff)) {
                break;
            }
            if (i == seen.length()) {
                return heard;
            }
            char bit = seen.charAt(i++);
            if (isStuff && bit == all.charAt(all.length() - 1)) {
                heard.event = 1;
                return heard;
            }
            all.append(bit);
            if (isStuff) {
                continue;
            }
            plain.append(bit);
            if (bit == '1' && isFlexible(plain) && plain.length() == (isLong(plain) ? 35 : 16)) {
                heard.event = 2;
                return heard;
            }
        }
        String whole = plain.toString();
        boolean right;
        if (isFlexible(whole)) {
            int width = Rows.octets(kind(whole), code(whole)) <= 16 ? 17 : 21;
            StringBuilder rest = new StringBuilder();
            char last = all.charAt(all.length() - 1);
            boolean behindFixed = false;
            while (rest.length() < 4 + width) {
                if (i == seen.length()) {
                    return heard;
                }
                char bit = seen.charAt(i++);
                if (rest.length() % 4 == 0 && !behindFixed) {
                    behindFixed = true;
                    if (bit == last) {
                        heard.event = 1;
                        return heard;
                    }
                } else {
                    behindFixed = false;
                    rest.append(bit);
                    if (rest.length() == 4 && !rest.toString().equals(Rows.count(all.length() - plain.length()))) {
                        heard.event = 1;
                        return heard;
                    }
                }
                last = bit;
            }
            right = rest.substring(4).equals(Rows.check(width, all + rest.substring(0, 4)));
        } else {
            int end = whole.length() - 15;
            right = whole.substring(end).equals(Rows.check(15, whole.substring(0, end)));
        }
        judgeTail(heard, whole, right, seen.subSequence(i, seen.length()).toString());
        return heard;
    }

    private static void judgeTail(Heard heard, String plain, boolean right, String tail) {
        heard.acknowledge = right && tail.length() == 1;
        if (tail.isEmpty()) {
            return;
        }
        int at = tail.length() - 1;
        boolean isZero = tail.charAt(at) == '0';
        if (isZero && at != 1) {
            heard.event = at == 9 ? 5 : 2;
        } else if (at == 2 && !right) {
            heard.event = 3;
        } else if (at == 8) {
            heard.taken = true;
            heard.kind = kind(plain);
            heard.code = code(plain);
            String bits = plain.substring(1, 12) + (isLong(plain) ? plain.substring(14, 32) : "");
            heard.identifier = Integer.parseInt(bits, 2);
            for (int k = 0; k < Rows.octets(heard.kind, heard.code); k++) {
                int from = headLength(plain) + 8 * k;
                heard.octets.add(Integer.parseInt(plain.substring(from, from + 8), 2));
            }
        } else if (at == 9) {
            heard.ended = true;
        }
    }
}
