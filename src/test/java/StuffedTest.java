/** Promise 5: stuffed, and the rows of bits that the bus gets. */
public final class StuffedTest {
    private static final int[][] OCTETS = {{}, {255, 255, 255, 255, 255, 255, 255, 255, 255, 255, 255, 255, 255},
        {0, 248, 0, 31, 7, 193, 240, 124, 15, 131}, {170, 85, 204, 51, 1, 2, 3, 4, 5, 6, 7, 8, 9, 10, 11, 12, 13}};
    private static final int[] IDENTIFIERS = {0, 1, 291, 1365, 1984, 2047};

    private static void row(int identifier, int kind, int code, int[] octets) {
        String row = Rows.row(identifier, kind, code, octets);
        String name = "identifier " + identifier + ", kind " + kind + ", code " + code;
        CanBits x = new CanBits();
        x.send(0, identifier, kind, code);
        for (int i = 0; i < octets.length && i < Rows.octets(kind, code); i++) {
            x.octet(0, i, octets[i]);
        }
        Due.is(name + ", stuffed(0)", row.length(), () -> x.stuffed(0));
        Due.is(name + ", run", 1, () -> x.run(row.length()));
        for (int i = 0; i < row.length(); i++) {
            int at = i;
            // The other node acknowledges.
            Due.is(name + ", bit(" + at + ")", at == row.length() - 9 ? 0 : row.charAt(at) - '0', () -> x.bit(at));
        }
    }

    public static void main(String[] args) {
        CanBits x = new CanBits();
        Due.fails("stuffed(0) without frames", IndexOutOfBoundsException.class, () -> x.stuffed(0));
        // 0 00010000101 000 1001, then 1 to 8 as characters: no five equal bits anywhere.
        x.send(0, 133, 0, 9);
        for (int i = 0; i < 8; i++) {
            x.octet(0, i, '1' + i);
        }
        Due.is("stuffed(0)", 19 + 64 + 15 + 10, () -> x.stuffed(0));
        Due.fails("stuffed(1)", IndexOutOfBoundsException.class, () -> x.stuffed(1));
        Due.fails("stuffed(-1)", IndexOutOfBoundsException.class, () -> x.stuffed(-1));
        // All 0 but for the stuff bits, its check too: 34 bits, a stuff bit behind each five of them, 10 at the end.
        x.send(0, 0, 0, 0);
        Due.is("stuffed(1)", 34 + 6 + 10, () -> x.stuffed(1));
        // The longest row: 64 octets of 0 in a LONG FLEXIBLE frame.
        x.send(0, 0, 3, 15);
        Due.is("stuffed(2)", Rows.row(0, 3, 15).length(), () -> x.stuffed(2));
        x.run(3000);
        Due.is("stuffed(0), it being done", 108, () -> x.stuffed(0));

        for (int kind = 0; kind < 6; kind++) {
            for (int code = 0; code < 16; code++) {
                for (int i = 0; i < IDENTIFIERS.length; i++) {
                    int identifier = kind % 2 == 0 ? IDENTIFIERS[i] : IDENTIFIERS[i] << 18 | IDENTIFIERS[5 - i] * 127;
                    row(identifier, kind, code, OCTETS[(i + code) % OCTETS.length]);
                }
            }
        }
        Due.end();
    }
}
