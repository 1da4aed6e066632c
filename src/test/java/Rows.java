/** Rows of frames as texts of 0 and 1, worked out from the document's words alone. */
final class Rows {
    static final int[] OCTETS_BY_CODE = {0, 1, 2, 3, 4, 5, 6, 7, 8, 12, 16, 20, 24, 32, 48, 64};
    static final String TAIL = "1111111111";

    private Rows() {
    }

    static boolean isLong(int kind) {
        return kind % 2 == 1;
    }

    static boolean isFlexible(int kind) {
        return kind / 2 == 1;
    }

    static int octets(int kind, int code) {
        return kind / 2 == 2 ? 0 : kind / 2 == 1 ? OCTETS_BY_CODE[code] : Math.min(code, 8);
    }

    static String binary(long number, int width) {
        StringBuilder text = new StringBuilder();
        for (int i = width - 1; i >= 0; i--) {
            text.append(number >> i & 1);
        }
        return text.toString();
    }

    /** The bits up to the end of the code. */
    static String head(int identifier, int kind, int code) {
        String r = kind / 2 == 2 ? "1" : "0";
        String reserved = isFlexible(kind) ? "1000" : isLong(kind) ? "00" : "0";
        if (isLong(kind)) {
            String whole = binary(identifier, 29);
            return "0" + whole.substring(0, 11) + "11" + whole.substring(11) + r + reserved + binary(code, 4);
        }
        return "0" + binary(identifier, 11) + r + "0" + reserved + binary(code, 4);
    }

    /** The bits up to the last octet's end. */
    static String body(int identifier, int kind, int code, int... octets) {
        StringBuilder text = new StringBuilder(head(identifier, kind, code));
        for (int i = 0; i < octets(kind, code); i++) {
            text.append(binary(i < octets.length ? octets[i] : 0, 8));
        }
        return text.toString();
    }

    static String plain(int identifier, int kind, int code, int... octets) {
        String body = body(identifier, kind, code, octets);
        return isFlexible(kind) ? body : body + check(15, body);
    }

    static String check(int width, String bits) {
        String by = binary(width == 15 ? 17817 : width == 17 ? 92251 : 1058969, width);
        StringBuilder register = new StringBuilder(binary(width == 15 ? 0 : 1L << width - 1, width));
        for (int i = 0; i < bits.length(); i++) {
            char gone = register.charAt(0);
            register.deleteCharAt(0).append('0');
            if (gone != bits.charAt(i)) {
                for (int k = 0; k < width; k++) {
                    register.setCharAt(k, register.charAt(k) == by.charAt(k) ? '0' : '1');
                }
            }
        }
        return register.toString();
    }

    static boolean endsInFive(CharSequence bits, int from) {
        int n = bits.length();
        if (n - from < 5) {
            return false;
        }
        for (int i = n - 5; i < n; i++) {
            if (bits.charAt(i) != bits.charAt(n - 1)) {
                return false;
            }
        }
        return true;
    }

    static char other(char bit) {
        return bit == '0' ? '1' : '0';
    }

    /** With stuff bits, but for one behind the last bit. */
    static String stuff(String plain) {
        StringBuilder row = new StringBuilder();
        for (int i = 0; i < plain.length(); i++) {
            if (endsInFive(row, 0)) {
                row.append(other(row.charAt(row.length() - 1)));
            }
            row.append(plain.charAt(i));
        }
        return row.toString();
    }

    static String count(int stuffBits) {
        String[] three = {"000", "001", "011", "010", "110", "111", "101", "100"};
        String text = three[stuffBits % 8];
        return text + text.chars().filter(c -> c == '1').count() % 2;
    }

    /** A classic row with its check, all behind the check left out. */
    static String classic(String body) {
        String row = stuff(body + check(15, body));
        return endsInFive(row, 0) ? row + other(row.charAt(row.length() - 1)) : row;
    }

    /** Count and check, each four of them behind a fixed bit. */
    static String fixed(char before, String bits) {
        StringBuilder row = new StringBuilder();
        char last = before;
        for (int i = 0; i < bits.length(); i++) {
            if (i % 4 == 0) {
                row.append(other(last));
            }
            last = bits.charAt(i);
            row.append(last);
        }
        return row.toString();
    }

    /** A flexible row with its check, all behind the check left out. */
    static String flexible(String body, int octets) {
        String row = stuff(body);
        String count = count(row.length() - body.length());
        String check = check(octets <= 16 ? 17 : 21, row + count);
        return row + fixed(row.charAt(row.length() - 1), count + check);
    }

    static String row(int identifier, int kind, int code, int... octets) {
        String body = body(identifier, kind, code, octets);
        return (isFlexible(kind) ? flexible(body, octets(kind, code)) : classic(body)) + TAIL;
    }
}
