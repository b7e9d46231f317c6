import java.util.Arrays;

/** What the document says of PACKERS at their edges, a sentence each. */
public final class PackerEdgesTest extends Rows {
    private static final int STORED = 0, RUNS = 1, BITS = 2, PREFIX = 3, MATCHES = 4;
    private static final Due due = new Due();

    public static void main(String[] args) {
        stored();
        emptyRow();
        runsPlainItems();
        runsLikeItems();
        runsTwoOrMore();
        runsUpToThreeLike();
        runsOrTheEnd();
        runsPlainAtMost();
        bitsTable();
        bitsWidth();
        prefixTable();
        prefixOfOne();
        prefixTies();
        prefixJoinedTies();
        prefixCodes();
        prefixDeepest();
        matchesPlainItems();
        matchesItems();
        matchesThreeOrMore();
        matchesAtMost();
        matchesLongest();
        matchesLeastBack();
        matchesFarthest();
        matchesOfTheirOwn();
        matchesUpToAMatch();
        matchesPlainAtMost();
        filledWithZeros();
        due.end();
    }

    /** The text by this PACKER alone; it is read again to the same. */
    private static void packs(int kind, int[] text, int... want) {
        Tested x = Due.of(text);
        int k = kind == STORED ? 0 : x.packer(kind);
        String name = text.length > 20 ? text.length + " bytes" : Arrays.toString(text);
        due.is("pack() of " + name, x.pack(k), 4 + want.length);
        due.row("OUT of " + name, x, 1, join(join(of(0, kind), count(text.length)), want));
        x.clear();
        due.is("unpack() of " + name, x.unpack(), text.length);
        due.row("the text again, " + name, x, 0, text);
    }

    /** OUT of this PACKER's bytes is read to a text. */
    private static void reads(int kind, int[] text, int... body) {
        due.reads(join(join(of(0, kind), count(text.length)), body), text);
    }

    private static void stored() {
        due.sentence("0, STORED: the same.");
        for (int n : of(1, 2, 255, 256, 257, 300)) {
            packs(STORED, mixed(n), mixed(n));
        }
    }

    private static void emptyRow() {
        due.sentence("(An empty row is packed to an empty one.)");
        for (int kind = STORED; kind <= MATCHES; kind++) {
            packs(kind, of());
        }
    }

    private static void runsPlainItems() {
        due.sentence("1, RUNS: items: a byte c below 128, and c + 1 bytes");
        for (int c = 0; c < 128; c++) {
            reads(RUNS, mixed(c + 1), join(of(c), mixed(c + 1)));
        }
    }

    private static void runsLikeItems() {
        due.sentence("or c of 128 or more, and one byte, which stands for c - 126 like ones.");
        for (int c = 128; c < 256; c++) {
            reads(RUNS, many(c - 1, c - 126), c, c - 1);
        }
    }

    private static void runsTwoOrMore() {
        due.sentence("where 2 like bytes or more stand (129 at most are taken), such an item of them");
        packs(RUNS, of(7), 0, 7);
        for (int n = 2; n <= 129; n++) {
            packs(RUNS, many(7, n), 126 + n, 7);
        }
        packs(RUNS, many(7, 130), 255, 7, 0, 7);
        packs(RUNS, many(7, 131), 255, 7, 128, 7);
        packs(RUNS, many(7, 258), 255, 7, 255, 7);
        packs(RUNS, many(7, 259), 255, 7, 255, 7, 0, 7);
        packs(RUNS, many(7, 260), 255, 7, 255, 7, 128, 7);
        packs(RUNS, many(0, 300), 255, 0, 255, 0, 168, 0);
        packs(RUNS, of(0, 0, 255, 255, 0, 0), 128, 0, 128, 255, 128, 0);
    }

    private static void runsUpToThreeLike() {
        due.sentence("else the bytes up to where three like ones begin, or the end, 128 at most.");
        packs(RUNS, of(1, 7, 7, 7), 0, 1, 129, 7);
        packs(RUNS, of(1, 2, 7, 7, 7, 3), 1, 1, 2, 129, 7, 0, 3);
        packs(RUNS, of(1, 7, 7, 2, 7, 7, 7), 3, 1, 7, 7, 2, 129, 7);
        packs(RUNS, of(1, 7, 7, 8, 8, 9, 9, 9), 4, 1, 7, 7, 8, 8, 129, 9);
        packs(RUNS, of(7, 7, 1, 7, 7), 128, 7, 2, 1, 7, 7);
        for (int n : of(1, 126, 127, 128, 129, 256)) {
            int[] row = rising(n);
            packs(RUNS, join(row, 99, 99, 99), join(plain(row), 129, 99));
        }
    }

    private static void runsOrTheEnd() {
        due.sentence("else the bytes up to where three like ones begin, or the end, 128 at most.");
        packs(RUNS, of(1, 2), 1, 1, 2);
        packs(RUNS, of(1, 2, 2), 2, 1, 2, 2);
        packs(RUNS, of(7, 7, 7, 2), 129, 7, 0, 2);
        packs(RUNS, of(7, 7, 7, 2, 3, 3), 129, 7, 2, 2, 3, 3);
    }

    private static void runsPlainAtMost() {
        due.sentence("else the bytes up to where three like ones begin, or the end, 128 at most.");
        for (int n : of(1, 127, 128, 129, 255, 256, 257, 300)) {
            packs(RUNS, rising(n), plain(rising(n)));
        }
        // Two like ones within the 128, over their end, and behind them, where they are an item of their own.
        int[] within = join(rising(126), 200, 200, 5);
        packs(RUNS, within, join(join(of(127), join(rising(126), 200, 200)), 0, 5));
        int[] over = join(rising(127), 200, 200, 5);
        packs(RUNS, over, join(join(of(127), join(rising(127), 200)), 1, 200, 5));
        int[] behind = join(rising(128), 200, 200, 5);
        packs(RUNS, behind, join(join(of(127), rising(128)), 128, 200, 0, 5));
    }

    private static int width(int k) {
        int width = 0;
        for (int room = 1; room < k; room *= 2) {
            width++;
        }
        return width;
    }

    private static String digits(int number, int width) {
        StringBuilder digits = new StringBuilder();
        for (int bit = width - 1; bit >= 0; bit--) {
            digits.append((number >> bit) % 2);
        }
        return digits.toString();
    }

    /** k unlike bytes, the greatest first, and some of them once more. */
    private static void packsBits(int k, int n) {
        int[] unlike = new int[k];
        for (int i = 0; i < k; i++) {
            unlike[i] = 256 - k + i;
        }
        int[] text = new int[n];
        StringBuilder numbers = new StringBuilder();
        for (int i = 0; i < n; i++) {
            text[i] = unlike[k - 1 - i % k];
            numbers.append(digits(k - 1 - i % k, width(k)));
        }
        packs(BITS, text, join(join(of(k - 1), unlike), bits(numbers.toString())));
    }

    private static void bitsTable() {
        due.sentence("2, BITS: of k unlike bytes: k - 1, these bytes, rising");
        packs(BITS, of(255), 0, 255);
        packs(BITS, of(255, 0), 1, 0, 255, 128);
        packs(BITS, of(9, 3, 200, 3), 2, 3, 9, 200, 0b01001000);
        packsBits(256, 256);
        packsBits(255, 255);
    }

    private static void bitsWidth() {
        due.sentence("in so many bits as k - 1 has (0 for k = 1)");
        int[] unlike = {1, 2, 3, 4, 5, 8, 9, 16, 17, 32, 33, 64, 65, 128, 129, 256};
        int[] widths = {0, 1, 2, 2, 3, 3, 4, 4, 5, 5, 6, 6, 7, 7, 8, 8};
        for (int i = 0; i < unlike.length; i++) {
            due.is("bits of " + unlike[i], width(unlike[i]), widths[i]);
            packsBits(unlike[i], unlike[i]);
            packsBits(unlike[i], 300);
        }
        packs(BITS, many(7, 300), 0, 7);
    }

    private static void prefixTable() {
        due.sentence("3, PREFIX: k - 1, then each of the k unlike bytes, rising, and its LENGTH;"
            + " then the code of each byte.");
        packs(PREFIX, of(255, 0), 1, 0, 1, 255, 1, 0b10000000);
        packs(PREFIX, of(9, 3, 9, 200), 2, 3, 2, 9, 1, 200, 2, 0b01001100);
        int[] table = {255};
        for (int b = 0; b < 256; b++) {
            table = join(table, b, 8);
        }
        packs(PREFIX, rising(256), join(table, rising(256)));
    }

    private static void prefixOfOne() {
        due.sentence("a byte's LENGTH is how many times its tree was joined (k = 1: 1).");
        for (int n : of(1, 7, 8, 9, 16, 17, 296, 297, 300)) {
            packs(PREFIX, many(255, n), join(of(0, 255, 1), many(0, (n + 7) / 8)));
        }
    }

    /** The LENGTHS of bytes 0, 1, .. that stand in the text so often. */
    private static void lengths(int[] weights, int... want) {
        int[] text = {};
        for (int b = 0; b < weights.length; b++) {
            text = join(text, many(b, weights[b]));
        }
        Tested x = Due.of(text);
        x.packer(PREFIX);
        x.pack(1);
        int[] got = new int[weights.length];
        for (int b = 0; b < got.length; b++) {
            due.is("byte " + b, x.octet(1, 5 + 2 * b), b);
            got[b] = x.octet(1, 6 + 2 * b);
        }
        due.same("LENGTHS of " + Arrays.toString(weights), got, want);
        x.clear();
        due.is("unpack()", x.unpack(), text.length);
        due.row("the text again", x, 0, text);
    }

    private static void prefixTies() {
        due.sentence("(of like ones those that came first: bytes as they rise, then joined ones as they were joined)");
        lengths(of(1, 1), 1, 1);
        lengths(of(1, 1, 1), 2, 2, 1);
        lengths(of(2, 1, 2), 2, 2, 1);
        lengths(of(2, 2, 1), 2, 1, 2);
        lengths(of(1, 2, 1), 2, 1, 2);
        lengths(of(1, 1, 1, 1), 2, 2, 2, 2);
        // Two bytes of 2 come before the joined one of 2.
        lengths(of(2, 2, 1, 1), 2, 2, 2, 2);
        lengths(of(1, 1, 2, 2), 2, 2, 2, 2);
        // The joined one of 2 before the byte of 3: it is joined with the byte of 2.
        lengths(of(1, 1, 2, 3), 3, 3, 2, 1);
    }

    private static void prefixJoinedTies() {
        due.sentence("then joined ones as they were joined) are joined to one of both WEIGHTs together");
        // (0 1) and (2 3) weigh alike: 4 is joined with the first of them.
        lengths(of(1, 1, 1, 1, 1), 3, 3, 2, 2, 2);
        lengths(of(1, 1, 1, 1, 1, 1), 3, 3, 3, 3, 2, 2);
        lengths(of(1, 1, 1, 1, 1, 1, 1), 3, 3, 3, 3, 3, 3, 2);
        lengths(many(1, 8), many(3, 8));
        lengths(many(1, 9), 4, 4, 3, 3, 3, 3, 3, 3, 3);
        // (0 1) of 2, then (2 3) of 4: 4 of 3 goes with (0 1), then 5 of 5 with (2 3).
        lengths(of(1, 1, 2, 2, 3, 5), 3, 3, 3, 3, 2, 2);
    }

    private static void prefixCodes() {
        due.sentence("Codes: by rising LENGTH, of one LENGTH by rising bytes: the first is all 0s,"
            + " the next one is the one before and 1, 0s behind it up to its LENGTH.");
        // LENGTHS 3, 3, 2, 1 of the bytes 1 2 3 4: codes 110, 111, 10, 0.
        packs(PREFIX, of(4, 4, 4, 3, 3, 2, 1), join(of(3, 1, 3, 2, 3, 3, 2, 4, 1), bits("0001010111110")));
        // LENGTHS 1, 2, 2: 0, 10, 11.
        packs(PREFIX, of(1, 1, 1, 2, 3), join(of(2, 1, 1, 2, 2, 3, 2), bits("0001011")));
        // LENGTHS 2, 1, 2: of one LENGTH the lesser byte first, wherever the bytes stand.
        packs(PREFIX, of(9, 9, 9, 200, 3), join(of(2, 3, 2, 9, 1, 200, 2), bits("0001110")));
        // LENGTHS 3, 3, 2, 2, 2: 110, 111, 00, 01, 10.
        packs(PREFIX, of(1, 2, 3, 4, 5), join(of(4, 1, 3, 2, 3, 3, 2, 4, 2, 5, 2), bits("110111000110")));
        // LENGTHS 1 and 4 times 3: two 0s come behind at once.
        packs(PREFIX, of(5, 6, 7, 8, 9, 9, 9, 9, 9),
            join(of(4, 5, 3, 6, 3, 7, 3, 8, 3, 9, 1), bits("100101110111" + "00000")));
    }

    private static void prefixDeepest() {
        due.sentence("a byte's LENGTH is how many times its tree was joined");
        lengths(of(1, 1, 2, 3, 5, 8, 13, 21, 34, 55, 89), 10, 10, 9, 8, 7, 6, 5, 4, 3, 2, 1);
        lengths(of(89, 55, 34, 21, 13, 8, 5, 3, 2, 1, 1), 1, 2, 3, 4, 5, 6, 7, 8, 9, 10, 10);
        // A twelfth would have to weigh more than all but one of these, so that no text is deep enough for it.
        lengths(of(1, 1, 1, 3, 4, 7, 11, 18, 29, 47, 76), 10, 10, 9, 8, 7, 6, 5, 4, 3, 2, 1);
        lengths(of(1, 1, 1, 3, 4, 7, 11, 18, 29, 47, 76, 102), 10, 10, 9, 8, 7, 6, 5, 4, 3, 2, 2, 2);
    }

    private static void matchesPlainItems() {
        due.sentence("4, MATCHES: items: a byte c below 128, and c + 1 bytes");
        for (int c = 0; c < 128; c++) {
            reads(MATCHES, mixed(c + 1), join(of(c), mixed(c + 1)));
        }
    }

    private static void matchesItems() {
        due.sentence("or c of 128 or more, and a byte d: c - 125 bytes like those d places before");
        for (int c = 128; c < 256; c++) {
            reads(MATCHES, many(9, 1 + c - 125), 0, 9, c, 1);
        }
        for (int d = 1; d <= 255; d++) {
            int[] row = rising(d);
            int[] text = join(row, 0, d == 1 ? 0 : 1, d < 3 ? 0 : 2);
            reads(MATCHES, text, join(plain(row), 128, d));
        }
    }

    private static void matchesThreeOrMore() {
        due.sentence("the longest match of 3 or more");
        packs(MATCHES, of(1, 2, 9, 1, 2, 8), 5, 1, 2, 9, 1, 2, 8);
        packs(MATCHES, of(1, 2, 3, 9, 1, 2, 3, 8), 3, 1, 2, 3, 9, 128, 4, 0, 8);
        packs(MATCHES, of(1, 2, 3, 9, 1, 2, 3), 3, 1, 2, 3, 9, 128, 4);
        packs(MATCHES, of(1, 2, 3, 9, 1, 2), 5, 1, 2, 3, 9, 1, 2);
        packs(MATCHES, of(1, 2, 3, 4, 9, 1, 2, 3, 4, 8), 4, 1, 2, 3, 4, 9, 129, 5, 0, 8);
        packs(MATCHES, many(7, 3), 2, 7, 7, 7);
        packs(MATCHES, many(7, 4), 0, 7, 128, 1);
    }

    private static void matchesAtMost() {
        due.sentence("(130 at most; of like ones that with the least d)");
        packs(MATCHES, many(7, 130), 0, 7, 254, 1);
        packs(MATCHES, many(7, 131), 0, 7, 255, 1);
        packs(MATCHES, many(7, 132), 0, 7, 255, 1, 0, 7);
        packs(MATCHES, many(7, 133), 0, 7, 255, 1, 1, 7, 7);
        packs(MATCHES, many(7, 134), 0, 7, 255, 1, 128, 1);
        packs(MATCHES, many(7, 261), 0, 7, 255, 1, 255, 1);
        packs(MATCHES, many(7, 300), 0, 7, 255, 1, 255, 1, 164, 1);
        int[] row = rising(135);
        packs(MATCHES, join(row, row), join(plain(row), 255, 135, 130, 135));
        // From places 0 to 10 on 130 like ones stand: all match alike then, and place 10 is the nearest.
        int[] ones = many(7, 140);
        packs(MATCHES, join(join(ones, 9), ones), 0, 7, 255, 1, 134, 1, 0, 9, 255, 131, 135, 1);
    }

    private static void matchesLongest() {
        due.sentence("the longest match of 3 or more");
        packs(MATCHES, of(1, 2, 3, 4, 9, 1, 2, 3, 8, 1, 2, 3, 4), 4, 1, 2, 3, 4, 9, 128, 5, 0, 8, 129, 9);
        packs(MATCHES, of(1, 2, 3, 8, 1, 2, 3, 4, 9, 1, 2, 3, 4), 3, 1, 2, 3, 8, 128, 4, 1, 4, 9, 129, 5);
    }

    private static void matchesLeastBack() {
        due.sentence("of like ones that with the least d");
        packs(MATCHES, of(1, 2, 3, 9, 1, 2, 3, 8, 1, 2, 3, 7), 3, 1, 2, 3, 9, 128, 4, 0, 8, 128, 4, 0, 7);
        packs(MATCHES, of(1, 2, 3, 9, 1, 2, 3, 8, 1, 2, 3), 3, 1, 2, 3, 9, 128, 4, 0, 8, 128, 4);
        // d = 2 and d = 4 match alike to the end.
        packs(MATCHES, of(1, 2, 1, 2, 1, 2, 1, 2), 1, 1, 2, 131, 2);
    }

    private static void matchesFarthest() {
        due.sentence("c - 125 bytes like those d places before (1 .. 255");
        for (int n : of(254, 255)) {
            packs(MATCHES, join(rising(n), 0, 1, 2), join(plain(rising(n)), 128, n));
        }
        packs(MATCHES, join(rising(256), 0, 1, 2), join(join(of(127), rising(128)), join(join(of(127),
            span(128, 256)), 2, 0, 1, 2)));
        // 1 2 3 lie near enough, 0 1 2 do not: the match begins one byte later.
        packs(MATCHES, join(rising(255), 77, 0, 1, 2), join(plain(join(rising(255), 77)), 2, 0, 1, 2));
        packs(MATCHES, join(rising(255), 77, 1, 2, 3), join(plain(join(rising(255), 77)), 128, 255));
    }

    private static void matchesOfTheirOwn() {
        due.sentence("(1 .. 255; they may be such as come by this item)");
        packs(MATCHES, of(1, 2, 3, 1, 2, 3, 1, 2), 2, 1, 2, 3, 130, 3);
        packs(MATCHES, of(5, 1, 1, 1, 1), 1, 5, 1, 128, 1);
        reads(MATCHES, of(1, 2, 1, 2, 1), 1, 1, 2, 128, 2);
        reads(MATCHES, of(1, 2, 2, 2, 2), 1, 1, 2, 128, 1);
    }

    private static void matchesUpToAMatch() {
        due.sentence("else the bytes up to where a match begins, or the end, 128 at most.");
        packs(MATCHES, of(1, 2, 3, 8, 9, 1, 2, 3), 4, 1, 2, 3, 8, 9, 128, 5);
        packs(MATCHES, of(1, 2, 3, 8, 1, 2, 3, 9, 4, 5), 3, 1, 2, 3, 8, 128, 4, 2, 9, 4, 5);
        for (int n : of(3, 126, 127, 128, 129, 130, 255, 256)) {
            int[] row = rising(n);
            packs(MATCHES, join(row, n - 3, n - 2, n - 1), join(plain(row), 128, 3));
        }
    }

    private static void matchesPlainAtMost() {
        due.sentence("else the bytes up to where a match begins, or the end, 128 at most.");
        for (int n : of(1, 2, 127, 128, 129, 255, 256, 257, 300)) {
            packs(MATCHES, rising(n), plain(rising(n)));
        }
    }

    private static void filledWithZeros() {
        due.sentence("Bits of 2, 3 are laid from the highest of a byte on, the last byte is filled with 0s.");
        for (int n = 1; n <= 18; n++) {
            int[] text = many(8, n);
            text[0] = 9;
            text[n - 1] = 9;
            String digits = n == 1 ? "" : "1" + "0".repeat(n - 2) + "1";
            int[] body = n == 1 ? of(0, 9) : n == 2 ? of(0, 9) : join(of(1, 8, 9), bits(digits));
            packs(BITS, text, body);
            if (n > 2) {
                packs(PREFIX, text, join(of(1, 8, 1, 9, 1), bits(digits)));
            }
        }
    }
}
