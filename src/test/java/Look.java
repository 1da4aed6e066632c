import java.util.StringJoiner;

/** All that a bus tells, as one text: two buses that are alike give the same one. */
final class Look {
    private Look() {
    }

    static String at(CanBits x) {
        StringJoiner text = new StringJoiner(" ");
        int time = x.time();
        text.add("time " + time);
        for (int kind = 0; kind < 3; kind++) {
            // Three checks of all bits stand for the bits themselves, in far fewer calls.
            text.add("check " + x.check(kind, 0, time));
        }
        for (int i = 0; i < nodes(x); i++) {
            text.add("node " + x.state(i) + " " + x.waiting(i));
            addTaken(text, x, i);
        }
        for (int i = 0; i < frames(x); i++) {
            text.add("frame " + x.stuffed(i));
        }
        for (int i = 0; i < x.done(CanBits.NONE, 0); i++) {
            text.add("done " + x.done(i, 0) + " " + x.done(i, 1));
        }
        for (int i = 0; i < x.error(CanBits.NONE, 0); i++) {
            text.add("error " + x.error(i, 0) + " " + x.error(i, 1) + " " + x.error(i, 2));
        }
        return text.toString();
    }

    private static void addTaken(StringJoiner text, CanBits x, int node) {
        for (int i = 0; i < x.taken(node, CanBits.NONE, 0); i++) {
            text.add("taken");
            for (int what = 0; what < 5; what++) {
                text.add(Integer.toString(x.taken(node, i, what)));
            }
            for (int k = 0; k < x.taken(node, i, 3); k++) {
                text.add(Integer.toString(x.takenOctet(node, i, k)));
            }
        }
    }

    static int nodes(CanBits x) {
        int n = 0;
        while (n < 40 && answers(x, n, true)) {
            n++;
        }
        return n;
    }

    static int frames(CanBits x) {
        int n = 0;
        while (n < 300 && answers(x, n, false)) {
            n++;
        }
        return n;
    }

    private static boolean answers(CanBits x, int i, boolean asNode) {
        return !Due.answerOf(() -> asNode ? x.waiting(i) : x.stuffed(i)).startsWith("throws");
    }
}
