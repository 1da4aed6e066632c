/** Promise 6: filter. */
public final class FilterTest {
    private static void takes(int identifier, int kind, int mask, int match, int want) {
        CanBits x = new CanBits();
        Due.goes("filter", () -> x.filter(1, mask, match));
        x.send(0, identifier, kind, 0);
        Due.is("run, filter(1, " + mask + ", " + match + ")", 1, () -> x.run(120));
        Due.is("taken of " + identifier + " by filter(1, " + mask + ", " + match + ")", want,
                () -> x.taken(1, CanBits.NONE, 0));
        Due.is("errors", 0, () -> x.error(CanBits.NONE, 0));
    }

    public static void main(String[] args) {
        takes(291, 0, 0, 0, 1);
        takes(291, 0, 0, 1, 0);
        takes(291, 0, 2047, 291, 1);
        takes(291, 0, 2047, 290, 0);
        takes(291, 0, 1, 1, 1);
        takes(291, 0, 1, 0, 0);
        takes(292, 4, 1, 0, 1);
        takes(291, 0, 3, 7, 0);
        takes(291, 0, -1, 291, 1);
        takes(291, 0, Integer.MIN_VALUE, 0, 1);
        takes(291, 0, Integer.MIN_VALUE, Integer.MIN_VALUE, 0);
        takes(536870911, 3, 1 << 28, 1 << 28, 1);
        takes(268435455, 1, 1 << 28, 1 << 28, 0);
        takes(5 << 18 | 9, 5, 0x3FFFF, 9, 1);
        takes(5 << 18 | 9, 5, 0x3FFFF, 5, 0);

        CanBits x = new CanBits();
        Due.stops("filter(2, 0, 0)", IndexOutOfBoundsException.class, () -> x.filter(2, 0, 0));
        Due.stops("filter(-1, 0, 0)", IndexOutOfBoundsException.class, () -> x.filter(-1, 0, 0));

        // The filter that is there at the sixth END decides.
        x.filter(1, 1, 0);
        x.send(0, 1, 0, 0);
        x.run(Rows.row(1, 0, 0).length() - 2);
        x.filter(1, 1, 1);
        x.run(20);
        Due.is("taken by a filter told late", 1, () -> x.taken(1, CanBits.NONE, 0));
        x.send(0, 1, 0, 0);
        x.run(Rows.row(1, 0, 0).length() - 1);
        x.filter(1, 1, 0);
        x.run(20);
        Due.is("taken before a filter told too late", 2, () -> x.taken(1, CanBits.NONE, 0));
        Due.is("filters are of their nodes", 0, () -> x.taken(0, CanBits.NONE, 0));
        Due.end();
    }
}
