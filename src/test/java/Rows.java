import java.util.Arrays;

/** Rows of bytes, for the tests that extend it. */
abstract class Rows {
    static int[] of(int... bytes) {
        return bytes;
    }

    static int[] join(int[] one, int... two) {
        int[] both = Arrays.copyOf(one, one.length + two.length);
        System.arraycopy(two, 0, both, one.length, two.length);
        return both;
    }

    static int[] many(int b, int n) {
        int[] row = new int[n];
        Arrays.fill(row, b);
        return row;
    }

    /** 0, 1, 2, .., from 0 again behind 255: no three of them come again within 255 places. */
    static int[] rising(int n) {
        return span(0, n);
    }

    static int[] span(int first, int end) {
        int[] row = new int[end - first];
        for (int i = 0; i < row.length; i++) {
            row[i] = (first + i) % 256;
        }
        return row;
    }

    /** Bytes that go up and down without an order that a filter or a packer would keep. */
    static int[] mixed(int n) {
        int[] row = new int[n];
        for (int i = 0; i < n; i++) {
            row[i] = (i * i * 37 + i * 101 + 11) % 256;
        }
        return row;
    }

    /** Items of bytes that stand as they are, 128 at most in each. */
    static int[] plain(int[] bytes) {
        int[] items = {};
        for (int at = 0; at < bytes.length; at += 128) {
            int end = Math.min(bytes.length, at + 128);
            items = join(join(items, end - at - 1), Arrays.copyOfRange(bytes, at, end));
        }
        return items;
    }

    /** The bytes of a text of 0s and 1s, from the highest bit on; 0s fill the last one. */
    static int[] bits(String digits) {
        String whole = digits + "0".repeat((8 - digits.length() % 8) % 8);
        int[] row = new int[whole.length() / 8];
        for (int i = 0; i < row.length; i++) {
            row[i] = Integer.parseInt(whole.substring(8 * i, 8 * i + 8), 2);
        }
        return row;
    }

    /** How many bytes a row has, as PACKED tells it. */
    static int[] count(int n) {
        return of(n / 256, n % 256);
    }
}
