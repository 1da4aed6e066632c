/** Lets one node alone see any text of bits: flips turn what a quiet bus is. */
final class Feed {
    private Feed() {
    }

    static void plant(CanBits x, int node, int from, String bits) {
        for (int i = 0; i < bits.length(); i++) {
            if (bits.charAt(i) == '0') {
                x.flip(node, from + i);
            }
        }
    }

    /** A lone node that has seen these bits. */
    static CanBits seen(String bits) {
        CanBits x = new CanBits();
        x.nodes(1);
        plant(x, 0, 0, bits);
        x.run(bits.length());
        return x;
    }

    static String with(String bits, int at, char bit) {
        return bits.substring(0, at) + bit + bits.substring(at + 1);
    }

    static String turned(String bits, int at) {
        return with(bits, at, Rows.other(bits.charAt(at)));
    }
}
