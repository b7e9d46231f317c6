import java.util.Arrays;

/** What the document says of unpack() and place() at their edges (promises 21, 22), a sentence each. */
public final class FaultEdgesTest extends Rows {
    private static final int NO = ChainChoice.NO;
    private static final int STORED = 0, RUNS = 1, BITS = 2, PREFIX = 3, MATCHES = 4;
    private static final Due due = new Due();

    public static void main(String[] args) {
        anyFilters();
        twoLikeFilters();
        anyPacker();
        textStays();
        numberOfFilters();
        kindOfFilter();
        valueOfFilter();
        kindOfPacker();
        numberOfBytes();
        outEnds();
        outEndsInTheHead();
        goesOn();
        goesOnBehindNone();
        metFirst();
        runsTooMany();
        matchesTooMany();
        matchTooFar();
        matchOfNone();
        unlikeOfBits();
        unlikeOfPrefix();
        numberOfBits();
        numberOverTwoBytes();
        lengthOutside();
        sumOfLengths();
        lengthOfOne();
        bitOfOne();
        bitsBehindPrefix();
        bitsBehindBits();
        placeOfNone();
        placeOfLatest();
        placeOfTheEnd();
        due.end();
    }

    /** OUT without FILTERS: the PACKER, how many bytes, and what it made. */
    private static int[] out(int kind, int n, int... body) {
        return join(join(of(0, kind), count(n)), body);
    }

    // ---- what is read

    private static void anyFilters() {
        due.sentence("OUT is read as PACKED by some FILTERS (any of those kinds, TOLD or not; also two like ones)");
        due.reads(of(1, 1, 2, 0, 0, 4, 5, 7, 255, 3), 5, 7, 4, 10);
        due.reads(of(1, 2, 0, 0, 0, 3, 255, 0, 1), 255, 255, 0);
        due.reads(of(1, 3, 2, 0, 0, 5, 1, 3, 5, 2, 4), 1, 2, 3, 4, 5);
        due.reads(of(1, 4, 255, 0, 0, 2, 0, 255), 255, 0);
        due.reads(of(2, 3, 2, 1, 1, 0, 0, 4, 1, 3, 254, 5), 1, 2, 4, 7);
        // TOLD ones do not matter.
        Tested x = Due.withOut(1, 4, 255, 0, 0, 2, 0, 255);
        x.filter(1, 1);
        x.packer(2);
        due.is("unpack()", x.unpack(), 2);
        due.row("the text", x, 0, 255, 0);
    }

    private static void twoLikeFilters() {
        due.sentence("also two like ones");
        due.reads(of(2, 1, 1, 1, 1, 0, 0, 4, 1, 0, 1, 2), 1, 2, 4, 8);
        due.reads(of(2, 4, 7, 4, 7, 0, 0, 2, 3, 4), 3, 4);
        // FRONT of 1 1 0 is 1 0 1; of that it is 1 1 1.
        due.reads(of(2, 2, 0, 2, 0, 0, 0, 3, 1, 1, 1), 1, 1, 0);
        // PLANES of 0 1 2 3 4 is 0 2 4 1 3; of that it is 0 4 3 2 1.
        due.reads(of(2, 3, 2, 3, 2, 0, 0, 5, 0, 4, 3, 2, 1), 0, 1, 2, 3, 4);
    }

    private static void anyPacker() {
        due.sentence("and PACKER (any): THE TEXT becomes that: how many bytes.");
        due.reads(out(STORED, 2, 8, 8), 8, 8);
        due.reads(out(RUNS, 2, 128, 8), 8, 8);
        due.reads(out(BITS, 2, 0, 8), 8, 8);
        due.reads(out(PREFIX, 2, 0, 8, 1, 0), 8, 8);
        due.reads(out(MATCHES, 4, 0, 8, 128, 1), 8, 8, 8, 8);
        for (int kind = STORED; kind <= MATCHES; kind++) {
            due.reads(out(kind, 0));
            due.reads(join(of(2, 1, 8, 4, 255, kind), 0, 0));
        }
        due.reads(out(STORED, 300, mixed(300)), mixed(300));
    }

    private static void textStays() {
        due.sentence("what is met first, going along OUT (THE TEXT stays then)");
        int[][] outs = {of(0, 5, 0, 2, 7, 8), out(STORED, 3, 7, 8), out(STORED, 2, 7, 8, 9),
            out(RUNS, 3, 128, 7, 1, 8, 9)};
        for (int fault = 1; fault <= 4; fault++) {
            Tested x = Due.withOut(outs[fault - 1]);
            due.is("unpack()", x.unpack(), -10 - fault);
            due.row("the text stays", x, 0, 9, 9, 9);
            due.is("add(1)", x.add(1), 4);
            due.is("unpack() again", x.unpack(), -10 - fault);
            due.row("the text stays", x, 0, 9, 9, 9, 1);
            due.row("OUT stays", x, 1, outs[fault - 1]);
        }
    }

    // ---- 1: cannot be

    private static void numberOfFilters() {
        due.sentence("1 a number of FILTERS, a kind, a v, a number of bytes (at its second byte) that cannot be");
        due.reads(of(0, 0, 0, 0));
        due.reads(of(1, 1, 1, 0, 0, 0));
        due.reads(of(2, 1, 1, 1, 1, 0, 0, 0));
        for (int many = 3; many < 256; many++) {
            due.faulty(1, 0, many, 1, 1, 1, 1, 1, 1, 0, 0, 0);
            due.faulty(1, 0, many);
        }
    }

    private static void kindOfFilter() {
        due.sentence("1 a number of FILTERS, a kind, a v, a number of bytes (at its second byte) that cannot be");
        for (int kind = 0; kind < 256; kind++) {
            if (kind == 0 || kind > 4) {
                due.faulty(1, 1, 1, kind, 2, 0, 0, 0);
                due.faulty(1, 1, 2, kind, 2, 1, 1, 0, 0, 0);
                due.faulty(1, 3, 2, 1, 1, kind, 2, 0, 0, 0);
                due.faulty(1, 1, 1, kind);
            } else {
                int v = kind == 2 ? 0 : 2;
                due.reads(of(1, kind, v, 0, 0, 0));
                due.reads(of(2, 1, 1, kind, v, 0, 0, 0));
            }
        }
    }

    private static void valueOfFilter() {
        due.sentence("1 a number of FILTERS, a kind, a v, a number of bytes (at its second byte) that cannot be");
        int[] least = {0, 1, 0, 2, 1};
        int[] most = {0, 8, 0, 8, 255};
        for (int kind = 1; kind <= 4; kind++) {
            for (int v = 0; v < 256; v++) {
                if (v >= least[kind] && v <= most[kind]) {
                    due.reads(of(1, kind, v, 0, 0, 0));
                    due.reads(of(2, 4, 1, kind, v, 0, 0, 0));
                } else {
                    due.faulty(1, 2, 1, kind, v, 0, 0, 0);
                    due.faulty(1, 4, 2, 4, 1, kind, v, 0, 0, 0);
                }
            }
        }
    }

    private static void kindOfPacker() {
        due.sentence("1 a number of FILTERS, a kind, a v, a number of bytes (at its second byte) that cannot be");
        for (int kind = 5; kind < 256; kind++) {
            due.faulty(1, 1, 0, kind, 0, 0);
            due.faulty(1, 3, 1, 1, 1, kind, 0, 0);
            due.faulty(1, 5, 2, 1, 1, 1, 1, kind, 0, 0);
        }
    }

    private static void numberOfBytes() {
        due.sentence("a number of bytes (at its second byte) that cannot be");
        due.reads(out(STORED, 299, mixed(299)), mixed(299));
        due.reads(out(STORED, 300, mixed(300)), mixed(300));
        for (int kind = STORED; kind <= MATCHES; kind++) {
            due.faulty(1, 3, 0, kind, 1, 45);
            due.faulty(1, 3, 0, kind, 1, 255);
            due.faulty(1, 3, 0, kind, 2, 0);
            due.faulty(1, 3, 0, kind, 255, 255, 1, 2);
            // It is seen at its second byte: without that, OUT ends.
            due.faulty(2, 3, 0, kind, 2);
            due.faulty(2, 3, 0, kind, 255);
            due.faulty(2, 4, 0, kind, 1, 44);
        }
        due.faulty(1, 5, 1, 4, 1, 0, 1, 45);
        due.faulty(1, 7, 2, 4, 1, 4, 1, 0, 1, 45);
    }

    // ---- 2, 3: the end

    private static int[][] wholes() {
        return new int[][] {
            out(STORED, 3, 7, 8, 9), out(RUNS, 6, 129, 7, 2, 7, 8, 9), out(BITS, 5, 2, 7, 8, 9, 0b00011000, 0),
            out(PREFIX, 6, 2, 1, 1, 2, 2, 3, 2, 21, 128), out(MATCHES, 7, 2, 1, 2, 3, 129, 3),
            of(2, 3, 8, 1, 1, 4, 0, 6, 0, 5, 130, 1), of(1, 2, 0, 2, 0, 8, 1, 0, 9, 0b10101010), out(RUNS, 0)};
    }

    private static void outEnds() {
        due.sentence("2 OUT ends");
        for (int[] whole : wholes()) {
            for (int n = 0; n < whole.length; n++) {
                Tested x = Due.withOut(whole);
                x.cut(n);
                due.is("unpack() of " + n + " of " + Arrays.toString(whole), x.unpack(), -12);
                due.is("place()", x.place(), n);
            }
        }
    }

    private static void outEndsInTheHead() {
        due.sentence("2 OUT ends");
        due.faulty(2, 0);
        due.faulty(2, 1, 0);
        due.faulty(2, 1, 1);
        due.faulty(2, 1, 2);
        due.faulty(2, 2, 1, 4);
        due.faulty(2, 3, 1, 4, 9);
        due.faulty(2, 3, 2, 4, 9);
        due.faulty(2, 4, 2, 4, 9, 4);
        due.faulty(2, 5, 2, 4, 9, 4, 9);
        due.faulty(2, 6, 2, 4, 9, 4, 9, 1);
        due.faulty(2, 7, 2, 4, 9, 4, 9, 1, 0);
        due.faulty(2, 8, 2, 4, 9, 4, 9, 1, 0, 1);
    }

    private static void goesOn() {
        due.sentence("3 it goes on behind the last one");
        for (int[] whole : wholes()) {
            for (int more : of(0, 1, 128, 255)) {
                due.faulty(3, whole.length, join(whole, more));
                due.faulty(3, whole.length, join(whole, more, 0, 0));
            }
        }
        due.faulty(3, 303, out(STORED, 299, mixed(300)));
    }

    private static void goesOnBehindNone() {
        due.sentence("3 it goes on behind the last one");
        for (int kind = STORED; kind <= MATCHES; kind++) {
            due.faulty(3, 4, 0, kind, 0, 0, 0);
            due.faulty(3, 4, 0, kind, 0, 0, 255, 7, 1);
            due.faulty(3, 6, 1, 1, 1, kind, 0, 0, 0);
            due.faulty(3, 8, 2, 1, 1, 1, 1, kind, 0, 0, 0);
        }
    }

    private static void metFirst() {
        due.sentence("what is met first, going along OUT");
        // Each has a second FAULT behind the first one.
        due.faulty(1, 0, 3, 9, 9, 9);
        due.faulty(1, 1, 1, 5, 0, 9, 255, 255);
        due.faulty(1, 2, 1, 1, 9, 9, 255, 255);
        due.faulty(1, 3, 1, 1, 1, 9, 255, 255);
        due.faulty(1, 3, 0, 1, 255, 255, 255);
        due.faulty(4, 4, out(RUNS, 1, 255));
        due.faulty(4, 6, out(BITS, 1, 1, 7, 7));
        due.faulty(4, 7, out(BITS, 1, 1, 7, 8, 0b00000001, 9));
        due.faulty(4, 6, out(PREFIX, 1, 1, 7, 0, 7));
        due.faulty(4, 8, out(PREFIX, 1, 1, 7, 2, 8, 2));
        due.faulty(4, 9, out(PREFIX, 1, 1, 7, 1, 8, 1, 0b00000001, 9));
        due.faulty(4, 4, out(MATCHES, 2, 128, 0));
    }

    // ---- 4: a wrong item

    private static void runsTooMany() {
        due.sentence("4 a wrong item: more bytes than THE TEXT has (at c)");
        for (int c = 0; c < 256; c++) {
            int many = c < 128 ? c + 1 : c - 126;
            int[] item = c < 128 ? join(of(c), mixed(many)) : of(c, 9);
            due.reads(out(RUNS, many, item), c < 128 ? mixed(many) : many(9, many));
            if (many > 1) {
                due.faulty(4, 4, out(RUNS, many - 1, item));
                due.faulty(4, 4, out(RUNS, many - 1, c));
                due.faulty(4, 6, out(RUNS, many, join(of(0, 9), item)));
            }
        }
        due.faulty(4, 6, out(RUNS, 3, 128, 7, 128, 7));
        due.faulty(4, 8, out(RUNS, 4, 128, 7, 0, 1, 128, 7));
    }

    private static void matchesTooMany() {
        due.sentence("4 a wrong item: more bytes than THE TEXT has (at c)");
        for (int c = 1; c < 256; c++) {
            int many = c < 128 ? c + 1 : c - 125;
            int[] item = c < 128 ? join(of(c), mixed(many)) : of(c, 1);
            due.faulty(4, 6, out(MATCHES, many, join(of(0, 9), item)));
            due.faulty(4, 6, out(MATCHES, many, 0, 9, c));
            int[] text = join(of(9), c < 128 ? mixed(many) : many(9, many));
            due.reads(out(MATCHES, many + 1, join(of(0, 9), item)), text);
        }
        due.faulty(4, 4, out(MATCHES, 1, 1, 7, 7));
        due.faulty(4, 4, out(MATCHES, 2, 128, 1));
        // Too many is seen at c, before d is.
        due.faulty(4, 6, out(MATCHES, 3, 0, 9, 128, 0));
    }

    private static void matchTooFar() {
        due.sentence("a match farther back than bytes there are, or d is 0 (at d)");
        for (int n = 1; n <= 128; n++) {
            int[] first = join(of(n - 1), mixed(n));
            int place = 4 + first.length + 1;
            due.faulty(4, place, out(MATCHES, n + 3, join(first, 128, n + 1)));
            due.faulty(4, place, out(MATCHES, n + 3, join(first, 128, 255)));
            int[] row = mixed(n);
            due.reads(out(MATCHES, n + 3, join(first, 128, n)), join(row, row[0], row[1 % n], row[2 % n]));
        }
        due.faulty(4, 5, out(MATCHES, 3, 128, 1));
        due.faulty(4, 5, out(MATCHES, 3, 128, 255));
        // 255 places back is the farthest that d can tell.
        int[] far = plain(rising(255));
        due.reads(out(MATCHES, 258, join(far, 128, 255)), join(rising(255), 0, 1, 2));
        due.faulty(4, 4 + 257, out(MATCHES, 257, join(plain(rising(254)), 128, 255)));
    }

    private static void matchOfNone() {
        due.sentence("a match farther back than bytes there are, or d is 0 (at d)");
        due.faulty(4, 5, out(MATCHES, 3, 128, 0));
        due.faulty(4, 7, out(MATCHES, 4, 0, 9, 128, 0));
        due.faulty(4, 9, out(MATCHES, 7, 0, 9, 128, 1, 128, 0));
        due.faulty(2, 5, out(MATCHES, 3, 128));
    }

    private static void unlikeOfBits() {
        due.sentence("unlike bytes that do not rise (at the first that does not)");
        due.reads(out(BITS, 1, 1, 0, 255, 128), 255);
        due.reads(out(BITS, 1, 1, 7, 8, 0), 7);
        due.faulty(4, 6, out(BITS, 1, 1, 7, 7, 0));
        due.faulty(4, 6, out(BITS, 1, 1, 7, 6, 0));
        due.faulty(4, 6, out(BITS, 1, 1, 0, 0, 0));
        due.faulty(4, 6, out(BITS, 1, 1, 255, 0, 0));
        due.faulty(4, 6, out(BITS, 1, 3, 7, 6, 5, 4, 0));
        due.faulty(4, 7, out(BITS, 1, 3, 7, 8, 8, 9, 0));
        due.faulty(4, 8, out(BITS, 1, 3, 7, 8, 9, 1, 0));
        // 255 at the 255th: the next one cannot rise any more.
        due.faulty(4, 260, out(BITS, 1, join(of(255), join(span(1, 256), 255))));
        due.reads(out(BITS, 1, join(of(255), join(rising(256), 255))), 255);
    }

    private static void unlikeOfPrefix() {
        due.sentence("unlike bytes that do not rise (at the first that does not)");
        due.reads(out(PREFIX, 1, 1, 0, 1, 255, 1, 128), 255);
        due.faulty(4, 7, out(PREFIX, 1, 1, 7, 1, 7, 1, 0));
        due.faulty(4, 7, out(PREFIX, 1, 1, 7, 1, 6, 1, 0));
        due.faulty(4, 7, out(PREFIX, 1, 1, 0, 1, 0, 1, 0));
        due.faulty(4, 7, out(PREFIX, 1, 2, 7, 1, 6, 2, 5, 2, 0));
        due.faulty(4, 9, out(PREFIX, 1, 2, 7, 1, 8, 2, 8, 2, 0));
        // The byte is met before its LENGTH.
        due.faulty(4, 7, out(PREFIX, 1, 1, 7, 1, 7, 99, 0));
        due.faulty(4, 7, out(PREFIX, 1, 1, 7, 1, 7));
    }

    private static void numberOfBits() {
        due.sentence("a number of BITS that is k or more (at the byte in which its bits end)");
        // k = 3: 3 is none; k = 5: 5, 6, 7 are none; k = 4: all are some.
        for (int number = 0; number < 4; number++) {
            int[] three = out(BITS, 1, 2, 7, 8, 9, number << 6);
            int[] four = out(BITS, 1, 3, 7, 8, 9, 10, number << 6);
            due.reads(four, 7 + number);
            if (number < 3) {
                due.reads(three, 7 + number);
            } else {
                due.faulty(4, 8, three);
            }
        }
        for (int number = 0; number < 8; number++) {
            int[] five = out(BITS, 1, 4, 1, 2, 3, 4, 5, number << 5);
            if (number < 5) {
                due.reads(five, 1 + number);
            } else {
                due.faulty(4, 10, five);
            }
        }
        // k = 129: 8 bits, of which 0 to 128 are numbers.
        for (int number : of(0, 127, 128, 129, 255)) {
            int[] many = out(BITS, 2, join(of(128), join(rising(129), number, 0)));
            if (number < 129) {
                due.reads(many, number, 0);
            } else {
                due.faulty(4, 4 + 130, many);
            }
        }
        // The fifth number of two bits stands at the front of the second byte.
        due.faulty(4, 9, out(BITS, 5, 2, 7, 8, 9, 0, 0b11000000));
        due.faulty(4, 8, out(BITS, 5, 2, 7, 8, 9, 0b00000011, 0));
    }

    private static void numberOverTwoBytes() {
        due.sentence("a number of BITS that is k or more (at the byte in which its bits end)");
        // k = 5: the third number has two bits in byte 10 and one in byte 11.
        due.reads(out(BITS, 3, 4, 1, 2, 3, 4, 5, 0b00000010, 0), 1, 1, 5);
        due.faulty(4, 11, out(BITS, 3, 4, 1, 2, 3, 4, 5, 0b00000010, 0b10000000));
        due.faulty(4, 11, out(BITS, 3, 4, 1, 2, 3, 4, 5, 0b00000011, 0));
        due.faulty(2, 11, out(BITS, 3, 4, 1, 2, 3, 4, 5, 0b00000011));
        // One that ends with the last bit of byte 10 (k = 9, 4 bits).
        int[] nine = {1, 2, 3, 4, 5, 6, 7, 8, 9};
        due.faulty(4, 14, out(BITS, 2, join(join(of(8), nine), 0b00001001)));
        due.faulty(4, 14, out(BITS, 2, join(join(of(8), nine), 0b10010000)));
        due.reads(out(BITS, 2, join(join(of(8), nine), 0b00001000)), 1, 9);
    }

    private static void lengthOutside() {
        due.sentence("a LENGTH that is not 1 to 15");
        for (int length = 0; length < 256; length++) {
            if (length < 1 || length > 15) {
                due.faulty(4, 6, out(PREFIX, 1, 2, 7, length, 8, 2, 9, 2, 0));
                due.faulty(4, 8, out(PREFIX, 1, 2, 7, 1, 8, length, 9, 2, 0));
                due.faulty(4, 10, out(PREFIX, 1, 2, 7, 1, 8, 2, 9, length, 0));
                due.faulty(4, 6, out(PREFIX, 1, 0, 7, length, 0));
            }
        }
        due.reads(deepest(2, 0b11111111, 0b11111110), 150, 0);
        due.reads(deepest(2, 0b11111111, 0b11111100), 140, 0);
    }

    /** LENGTHS 1, 2, .., 14, 15, 15 of the bytes 0, 10, .., 150. */
    private static int[] deepest(int n, int... codes) {
        int[] body = {15};
        for (int i = 0; i < 16; i++) {
            body = join(body, 10 * i, Math.min(i + 1, 15));
        }
        return out(PREFIX, n, join(body, codes));
    }

    private static void sumOfLengths() {
        due.sentence("LENGTHs of which the sum of 1 / 2^LENGTH is not 1 (k = 1: that is not 1; at the last one)");
        due.reads(out(PREFIX, 1, 1, 7, 1, 8, 1, 0), 7);
        due.reads(out(PREFIX, 1, 2, 7, 1, 8, 2, 9, 2, 0), 7);
        due.reads(out(PREFIX, 1, 3, 6, 2, 7, 2, 8, 2, 9, 2, 0), 6);
        // Too little.
        due.faulty(4, 8, out(PREFIX, 1, 1, 7, 1, 8, 2, 0));
        due.faulty(4, 8, out(PREFIX, 1, 1, 7, 2, 8, 2, 0));
        due.faulty(4, 10, out(PREFIX, 1, 2, 7, 1, 8, 2, 9, 3, 0));
        due.faulty(4, 10, out(PREFIX, 1, 2, 7, 15, 8, 15, 9, 15, 0));
        // Too much, which is told at the last one too.
        due.faulty(4, 10, out(PREFIX, 1, 2, 7, 1, 8, 1, 9, 1, 0));
        due.faulty(4, 10, out(PREFIX, 1, 2, 7, 1, 8, 1, 9, 15, 0));
        due.faulty(4, 12, out(PREFIX, 1, 3, 6, 1, 7, 1, 8, 1, 9, 1, 0));
        // By 1 / 2^15 too little and too much.
        int[] little = deepest(1, 0);
        little[4] = 14;
        due.faulty(4, 4 + 30, Arrays.copyOf(little, 4 + 1 + 30 + 1));
        int[] much = deepest(1);
        much[4] = 16;
        due.faulty(4, 4 + 34, join(much, 151, 15, 0));
        // 256 LENGTHS of 8 are just 1; one of 7 among them is too much, one of 9 too little.
        Tested x = Due.of(rising(256));
        x.packer(PREFIX);
        x.pack(1);
        for (int length : of(8, 7, 9)) {
            x.alter(6, length);
            due.is("unpack() with a LENGTH of " + length, x.unpack(), length == 8 ? 256 : -14);
            due.is("place()", x.place(), length == 8 ? NO : 4 + 512);
        }
    }

    private static void lengthOfOne() {
        due.sentence("(k = 1: that is not 1; at the last one)");
        due.reads(out(PREFIX, 1, 0, 7, 1, 0), 7);
        for (int length = 2; length <= 15; length++) {
            due.faulty(4, 6, out(PREFIX, 1, 0, 7, length, 0));
            due.faulty(4, 6, out(PREFIX, 1, 0, 7, length));
        }
    }

    private static void bitOfOne() {
        due.sentence("with k = 1 a bit of PREFIX that is 1 (at its byte)");
        due.reads(out(PREFIX, 8, 0, 7, 1, 0), many(7, 8));
        due.reads(out(PREFIX, 9, 0, 7, 1, 0, 0), many(7, 9));
        for (int bit = 0; bit < 16; bit++) {
            int high = bit < 8 ? 128 >> bit : 0;
            int low = bit < 8 ? 0 : 128 >> bit - 8;
            due.faulty(4, 7 + bit / 8, out(PREFIX, 16, 0, 7, 1, high, low));
        }
        due.faulty(4, 7, out(PREFIX, 9, 0, 7, 1, 1));
        due.faulty(2, 8, out(PREFIX, 9, 0, 7, 1, 0));
    }

    private static void bitsBehindPrefix() {
        due.sentence("bits behind the last code that are not 0 (at the last byte).");
        // Of k = 1 so many codes, and each bit of their byte, behind them or not.
        for (int codes = 1; codes <= 8; codes++) {
            for (int bit = 0; bit < 8; bit++) {
                due.faulty(4, 7, out(PREFIX, codes, 0, 7, 1, 128 >> bit));
            }
        }
        // 7 bits of codes: one behind them.
        due.reads(out(PREFIX, 7, 1, 7, 1, 8, 1, 0b10101010), 8, 7, 8, 7, 8, 7, 8);
        due.faulty(4, 9, out(PREFIX, 7, 1, 7, 1, 8, 1, 0b10101011));
        // 8 bits of codes: none behind them.
        due.reads(out(PREFIX, 8, 1, 7, 1, 8, 1, 0b10101011), 8, 7, 8, 7, 8, 7, 8, 8);
        // 9 bits: seven behind, in the second byte.
        for (int bit = 0; bit < 7; bit++) {
            due.faulty(4, 10, out(PREFIX, 9, 1, 7, 1, 8, 1, 255, 128 | 1 << bit));
        }
        due.reads(out(PREFIX, 9, 1, 7, 1, 8, 1, 255, 128), many(8, 9));
        // It is met before what goes on behind it.
        due.faulty(4, 9, out(PREFIX, 7, 1, 7, 1, 8, 1, 1, 0));
    }

    private static void bitsBehindBits() {
        due.sentence("bits behind the last code that are not 0 (at the last byte).");
        due.reads(out(BITS, 7, 1, 7, 8, 0b10101010), 8, 7, 8, 7, 8, 7, 8);
        due.faulty(4, 7, out(BITS, 7, 1, 7, 8, 0b10101011));
        due.reads(out(BITS, 8, 1, 7, 8, 0b10101011), 8, 7, 8, 7, 8, 7, 8, 8);
        for (int bit = 0; bit < 7; bit++) {
            due.faulty(4, 8, out(BITS, 9, 1, 7, 8, 255, 128 | 1 << bit));
        }
        due.reads(out(BITS, 9, 1, 7, 8, 255, 128), many(8, 9));
        due.faulty(4, 7, out(BITS, 7, 1, 7, 8, 1, 0));
        // k = 1 has no bits, so that a byte behind the table is behind the last one.
        due.faulty(3, 6, out(BITS, 7, 0, 7, 1));
        due.faulty(3, 6, out(BITS, 7, 0, 7, 0));
    }

    // ---- place

    private static void placeOfNone() {
        due.sentence("NO: it had none.");
        Tested x = new Tested();
        due.is("no unpack() yet", x.place(), NO);
        x.pack(0);
        due.is("unpack()", x.unpack(), 0);
        due.is("it had none", x.place(), NO);
    }

    private static void placeOfLatest() {
        due.sentence("The place of the FAULT of the latest unpack()");
        Tested x = Due.of(1, 2);
        x.pack(0);
        x.alter(1, 9);
        due.is("unpack()", x.unpack(), -11);
        due.is("place()", x.place(), 1);
        x.alter(1, 0);
        x.clear();
        x.pack(0);
        x.choose(0, 0);
        x.forget();
        x.cut(4);
        due.is("no other call changes it", x.place(), 1);
        due.is("unpack()", x.unpack(), 0);
        due.is("the latest had none", x.place(), NO);
        x.alter(3, 3);
        due.is("unpack()", x.unpack(), -12);
        due.is("place()", x.place(), 4);
        x.alter(0, 3);
        due.is("unpack()", x.unpack(), -11);
        due.is("place() at the very first byte", x.place(), 0);
    }

    private static void placeOfTheEnd() {
        due.sentence("(of 2 the number of bytes of OUT)");
        Tested x = Due.of(mixed(300));
        x.pack(0);
        for (int n : of(303, 100, 5, 4, 3, 1, 0)) {
            x.cut(n);
            due.is("unpack() of " + n, x.unpack(), -12);
            due.is("place()", x.place(), n);
        }
        due.row("the text stays", x, 0, mixed(300));
    }
}
