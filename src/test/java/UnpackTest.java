/** Promises 21 and 22: unpack, place. */
public final class UnpackTest {
    private static final int NO = ChainChoice.NO;
    private static final Due due = new Due();

    public static void main(String[] args) {
        head();
        stored();
        runs();
        bits();
        prefix();
        prefixLengths();
        matches();
        filters();
        latest();
        afterFault();
        due.end();
    }

    private static void head() {
        due.promise("21 unpack: the head");
        due.faulty(2, 0);
        due.faulty(1, 0, 3, 0, 0, 0);
        due.faulty(1, 0, 255);
        due.faulty(2, 1, 0);
        due.faulty(1, 1, 0, 5, 0, 0);
        due.faulty(1, 1, 0, 255);
        due.faulty(2, 2, 0, 4);
        due.faulty(2, 3, 0, 0, 0);
        // A number of bytes that cannot be is seen at its second byte.
        due.faulty(2, 3, 0, 0, 255);
        due.faulty(1, 3, 0, 0, 255, 0);
        due.faulty(1, 3, 0, 0, 1, 45, 1, 2, 3);
        due.faulty(2, 5, 0, 0, 1, 44, 1);
        due.faulty(2, 1, 1);
        due.faulty(1, 1, 1, 0, 0, 0, 0, 0);
        due.faulty(1, 1, 1, 5, 1, 0, 0, 0);
        due.faulty(2, 2, 1, 1);
        int[][] none = {{1, 0}, {1, 9}, {2, 1}, {2, 255}, {3, 0}, {3, 1}, {3, 9}, {4, 0}};
        for (int[] one : none) {
            due.faulty(1, 2, 1, one[0], one[1], 0, 0, 0);
            due.faulty(1, 4, 2, 1, 1, one[0], one[1], 0, 0, 0);
        }
        due.faulty(1, 3, 2, 1, 1, 5, 1, 0, 0, 0);
        due.faulty(2, 3, 2, 1, 1);
        due.faulty(1, 3, 1, 1, 1, 5, 0, 0);
        due.faulty(1, 5, 1, 1, 1, 0, 2, 0);
        due.faulty(1, 5, 2, 1, 1, 1, 1, 9, 0, 0);
        for (int kind = 0; kind <= 4; kind++) {
            due.reads(new int[] {0, kind, 0, 0});
            due.faulty(3, 4, 0, kind, 0, 0, 0);
            due.faulty(2, 4, 0, kind, 0, 1);
        }
        due.reads(new int[] {2, 4, 255, 2, 0, 3, 0, 0});
    }

    private static void stored() {
        due.promise("21 unpack: STORED");
        due.reads(new int[] {0, 0, 0, 2, 255, 0}, 255, 0);
        due.faulty(2, 5, 0, 0, 0, 2, 255);
        due.faulty(3, 6, 0, 0, 0, 2, 255, 0, 0);
        due.faulty(3, 6, 0, 0, 0, 2, 255, 0, 1, 2, 3);
    }

    private static void runs() {
        due.promise("21 unpack: RUNS");
        due.reads(new int[] {0, 1, 0, 5, 129, 7, 1, 7, 8}, 7, 7, 7, 7, 8);
        // Other items than pack() makes are read as well.
        due.reads(new int[] {0, 1, 0, 3, 0, 7, 0, 7, 0, 7}, 7, 7, 7);
        due.reads(new int[] {0, 1, 0, 3, 2, 7, 7, 7}, 7, 7, 7);
        due.faulty(4, 4, 0, 1, 0, 2, 2, 7, 7, 7);
        due.faulty(4, 4, 0, 1, 0, 2, 2);
        due.faulty(4, 4, 0, 1, 0, 2, 129, 7);
        due.faulty(4, 4, 0, 1, 0, 1, 128, 7);
        due.faulty(4, 6, 0, 1, 0, 3, 128, 7, 128, 7);
        due.faulty(4, 6, 0, 1, 0, 3, 128, 7, 1, 7);
        due.faulty(2, 5, 0, 1, 0, 2, 128);
        due.faulty(2, 6, 0, 1, 0, 2, 1, 7);
        due.faulty(2, 6, 0, 1, 0, 3, 128, 7);
        due.faulty(3, 6, 0, 1, 0, 2, 128, 7, 0);
        due.faulty(3, 7, 0, 1, 0, 2, 1, 7, 7, 0, 0);
    }

    private static void bits() {
        due.promise("21 unpack: BITS");
        due.reads(new int[] {0, 2, 0, 3, 0, 7}, 7, 7, 7);
        due.faulty(3, 6, 0, 2, 0, 3, 0, 7, 0);
        due.reads(new int[] {0, 2, 0, 3, 1, 7, 9, 160}, 9, 7, 9);
        due.faulty(4, 7, 0, 2, 0, 3, 1, 7, 9, 161);
        due.faulty(4, 7, 0, 2, 0, 3, 1, 7, 9, 176, 0);
        due.faulty(3, 8, 0, 2, 0, 3, 1, 7, 9, 160, 0);
        due.faulty(2, 7, 0, 2, 0, 3, 1, 7, 9);
        due.faulty(2, 5, 0, 2, 0, 3, 1);
        due.faulty(2, 6, 0, 2, 0, 3, 1, 7);
        due.faulty(4, 6, 0, 2, 0, 3, 1, 7, 7, 160);
        due.faulty(4, 6, 0, 2, 0, 3, 2, 7, 6, 5, 0);
        due.faulty(4, 7, 0, 2, 0, 3, 2, 7, 8, 0);
        due.faulty(4, 6, 0, 2, 0, 3, 255, 255, 0);
        // More unlike bytes than the text has are read; those that stand nowhere do no harm.
        due.reads(new int[] {0, 2, 0, 1, 2, 7, 8, 9, 0b10000000}, 9);
        // k = 3: the number 3 is none.
        due.faulty(4, 8, 0, 2, 0, 1, 2, 7, 8, 9, 0b11000000);
        due.faulty(4, 9, 0, 2, 0, 5, 2, 7, 8, 9, 0, 0b11000000);
        // k = 5, 3 bits: the third number begins in byte 10 and ends in byte 11.
        due.reads(new int[] {0, 2, 0, 3, 4, 1, 2, 3, 4, 5, 0b00000010, 0}, 1, 1, 5);
        due.faulty(4, 11, 0, 2, 0, 3, 4, 1, 2, 3, 4, 5, 0b00000010, 0b10000000);
        due.faulty(4, 11, 0, 2, 0, 3, 4, 1, 2, 3, 4, 5, 0b00000011, 0);
        due.faulty(2, 11, 0, 2, 0, 3, 4, 1, 2, 3, 4, 5, 0b00000011);
        due.faulty(4, 10, 0, 2, 0, 3, 4, 1, 2, 3, 4, 5, 0b10100011);
        due.faulty(4, 11, 0, 2, 0, 3, 4, 1, 2, 3, 4, 5, 0, 1);
    }

    private static void prefix() {
        due.promise("21 unpack: PREFIX");
        due.reads(new int[] {0, 3, 0, 6, 2, 1, 1, 2, 2, 3, 2, 21, 128}, 1, 1, 1, 2, 2, 3);
        due.faulty(4, 12, 0, 3, 0, 6, 2, 1, 1, 2, 2, 3, 2, 21, 129);
        due.faulty(4, 12, 0, 3, 0, 6, 2, 1, 1, 2, 2, 3, 2, 21, 192, 5);
        due.faulty(3, 13, 0, 3, 0, 6, 2, 1, 1, 2, 2, 3, 2, 21, 128, 0);
        due.faulty(2, 12, 0, 3, 0, 6, 2, 1, 1, 2, 2, 3, 2, 21);
        due.faulty(2, 11, 0, 3, 0, 6, 2, 1, 1, 2, 2, 3, 2);
        due.faulty(2, 10, 0, 3, 0, 6, 2, 1, 1, 2, 2, 3);
        due.faulty(2, 9, 0, 3, 0, 6, 2, 1, 1, 2, 2);
        due.faulty(2, 5, 0, 3, 0, 6, 2);
        due.faulty(4, 7, 0, 3, 0, 6, 2, 1, 1, 1, 2, 3, 2, 21, 128);
        due.faulty(4, 9, 0, 3, 0, 6, 2, 1, 1, 2, 2, 0, 2, 21, 128);
        // One byte alone.
        due.reads(new int[] {0, 3, 0, 2, 0, 7, 1, 0}, 7, 7);
        due.faulty(4, 7, 0, 3, 0, 2, 0, 7, 1, 128);
        due.faulty(4, 7, 0, 3, 0, 2, 0, 7, 1, 64);
        due.faulty(4, 7, 0, 3, 0, 2, 0, 7, 1, 32);
        due.faulty(4, 8, 0, 3, 0, 9, 0, 7, 1, 0, 128);
        due.faulty(4, 7, 0, 3, 0, 9, 0, 7, 1, 1);
        due.faulty(2, 8, 0, 3, 0, 9, 0, 7, 1, 0);
        due.faulty(3, 8, 0, 3, 0, 8, 0, 7, 1, 0, 0);
        due.faulty(4, 6, 0, 3, 0, 2, 0, 7, 2, 0);
        due.faulty(4, 6, 0, 3, 0, 2, 0, 7, 15, 0);
        due.faulty(4, 6, 0, 3, 0, 2, 0, 7, 0, 0);
        due.faulty(4, 6, 0, 3, 0, 2, 0, 7, 16, 0);
        // Codes that stand nowhere do no harm.
        due.reads(new int[] {0, 3, 0, 1, 1, 7, 1, 9, 1, 128}, 9);
    }

    private static void prefixLengths() {
        due.promise("21 unpack: LENGTHS");
        due.faulty(4, 6, 0, 3, 0, 6, 2, 1, 0, 2, 2, 3, 2, 21, 128);
        due.faulty(4, 8, 0, 3, 0, 6, 2, 1, 1, 2, 16, 3, 2, 21, 128);
        due.faulty(4, 8, 0, 3, 0, 6, 2, 1, 1, 2, 255, 3, 2, 21, 128);
        // The sum is told at the last one, be it too small or too great.
        due.faulty(4, 10, 0, 3, 0, 6, 2, 1, 1, 2, 2, 3, 3, 21, 128);
        due.faulty(4, 10, 0, 3, 0, 6, 2, 1, 1, 2, 1, 3, 1, 21, 128);
        due.faulty(4, 10, 0, 3, 0, 6, 2, 1, 1, 2, 1, 3, 15);
        due.faulty(4, 9, 0, 3, 0, 6, 2, 1, 1, 2, 1, 2, 1, 21, 128);
        due.faulty(4, 8, 0, 3, 0, 6, 1, 1, 2, 2, 2, 0, 0);
        // 1, 2, .., 14, 15, 15: the longest code is 15 bits of 1.
        int[] out = new int[5 + 32 + 4];
        out[1] = 3;
        out[3] = 2;
        out[4] = 15;
        for (int i = 0; i < 16; i++) {
            out[5 + 2 * i] = 10 * i;
            out[6 + 2 * i] = Math.min(i + 1, 15);
        }
        out[37] = 255;
        out[38] = 254;
        out[39] = 0;
        due.faulty(3, 39, out);
        int[] whole = java.util.Arrays.copyOf(out, 39);
        due.reads(whole, 150, 0);
        whole[38] = 252;
        due.reads(whole, 140, 0);
        whole[38] = 255;
        due.faulty(2, 39, whole);
    }

    private static void matches() {
        due.promise("21 unpack: MATCHES");
        due.reads(new int[] {0, 4, 0, 7, 2, 1, 2, 3, 129, 3}, 1, 2, 3, 1, 2, 3, 1);
        due.reads(new int[] {0, 4, 0, 5, 1, 1, 2, 128, 1}, 1, 2, 2, 2, 2);
        due.reads(new int[] {0, 4, 0, 5, 1, 1, 2, 128, 2}, 1, 2, 1, 2, 1);
        due.faulty(4, 8, 0, 4, 0, 5, 1, 1, 2, 128, 3);
        due.faulty(4, 8, 0, 4, 0, 5, 1, 1, 2, 128, 0);
        due.faulty(4, 8, 0, 4, 0, 5, 1, 1, 2, 128, 255);
        due.faulty(4, 7, 0, 4, 0, 5, 1, 1, 2, 129, 1);
        due.faulty(4, 7, 0, 4, 0, 5, 1, 1, 2, 129, 0);
        due.faulty(4, 7, 0, 4, 0, 5, 1, 1, 2, 129);
        due.faulty(4, 7, 0, 4, 0, 3, 1, 1, 2, 1, 1, 1);
        due.faulty(4, 5, 0, 4, 0, 5, 128, 1, 1, 1, 1);
        due.faulty(4, 4, 0, 4, 0, 2, 128, 1);
        due.faulty(2, 5, 0, 4, 0, 5, 128);
        due.faulty(2, 8, 0, 4, 0, 5, 1, 1, 2, 128);
        due.faulty(2, 7, 0, 4, 0, 5, 1, 1, 2);
        due.faulty(2, 6, 0, 4, 0, 5, 1, 1);
        due.faulty(3, 9, 0, 4, 0, 5, 1, 1, 2, 128, 2, 0);
    }

    private static void filters() {
        due.promise("21 unpack: FILTERS that are not told");
        due.reads(new int[] {1, 1, 1, 0, 0, 3, 5, 2, 253}, 5, 7, 4);
        due.reads(new int[] {1, 2, 0, 0, 0, 6, 2, 0, 1, 2, 255, 3}, 2, 2, 0, 1, 255, 2);
        due.reads(new int[] {1, 3, 3, 0, 0, 7, 0, 3, 6, 1, 4, 2, 5}, 0, 1, 2, 3, 4, 5, 6);
        due.reads(new int[] {1, 4, 255, 0, 0, 2, 0, 1}, 255, 254);
        due.reads(new int[] {2, 1, 1, 1, 1, 0, 0, 4, 1, 0, 1, 2}, 1, 2, 4, 8);
        due.reads(new int[] {2, 4, 1, 4, 1, 1, 0, 3, 129, 7}, 7, 7, 7);
        due.reads(new int[] {2, 1, 1, 4, 1, 0, 0, 2, 0, 0}, 1, 2);
        due.reads(new int[] {2, 4, 1, 1, 1, 0, 0, 2, 0, 3}, 1, 2);
    }

    /** What a FAULT, or another text, has left does not reach the next unpack(). */
    private static void afterFault() {
        due.promise("21 unpack: once more");
        // A FAULT amid the bits of a byte; then the same OUT without it.
        Tested x = Due.withOut(0, 3, 0, 9, 0, 7, 1, 16, 0);
        due.is("unpack()", x.unpack(), -14);
        due.is("place()", x.place(), 7);
        x.alter(7, 0);
        due.is("unpack()", x.unpack(), 9);
        due.row("the text", x, 0, 7, 7, 7, 7, 7, 7, 7, 7, 7);
        x = Due.withOut(0, 2, 0, 3, 2, 7, 8, 9, 0b11000000);
        due.is("unpack()", x.unpack(), -14);
        x.alter(8, 0b10010000);
        due.is("unpack()", x.unpack(), 3);
        due.row("the text", x, 0, 9, 8, 7);
        // Other LENGTHS for other bytes.
        x = Due.withOut(0, 3, 0, 2, 1, 7, 1, 9, 1, 0b10000000);
        due.is("unpack()", x.unpack(), 2);
        x.alter(5, 8);
        due.is("unpack()", x.unpack(), 2);
        due.row("the text", x, 0, 9, 8);
        x.alter(6, 2);
        due.is("unpack()", x.unpack(), -14);
        due.is("place()", x.place(), 8);
        // Two FILTERS, then none.
        x = Due.withOut(2, 4, 3, 4, 1, 0, 0, 1, 0);
        due.is("unpack()", x.unpack(), 1);
        due.row("the text", x, 0, 2);
        x.pack(0);
        due.is("unpack()", x.unpack(), 1);
        due.row("the text", x, 0, 2);
    }

    private static void latest() {
        due.promise("22 place");
        Tested x = Due.of(1, 2, 3);
        due.is("place()", x.place(), NO);
        x.pack(0);
        x.cut(5);
        due.is("unpack()", x.unpack(), -12);
        due.is("place()", x.place(), 5);
        due.is("pack(0)", x.pack(0), 7);
        x.cut(6);
        due.is("place() stays", x.place(), 5);
        due.is("unpack()", x.unpack(), -12);
        due.is("place()", x.place(), 6);
        x.alter(0, 7);
        due.is("unpack()", x.unpack(), -11);
        due.is("place()", x.place(), 0);
        x.alter(0, 0);
        x.alter(3, 2);
        x.filter(1, 1);
        x.choose(100, 100);
        x.learn();
        due.is("unpack()", x.unpack(), 2);
        due.is("place()", x.place(), NO);
        due.row("the text", x, 0, 1, 2);
        due.is("told(3)", x.told(3), 7);
        due.is("add(9)", x.add(9), 3);
    }
}
