import java.util.Arrays;

/** Promises 18 to 20: pack (with each filter and packer), alter, cut. */
public final class PackTest extends Rows {
    private static final int BAD = ChainChoice.BAD;
    private static final int STORED = 0, RUNS = 1, BITS = 2, PREFIX = 3, MATCHES = 4;
    private static final Due due = new Due();

    public static void main(String[] args) {
        wrong();
        filters();
        filterPairs();
        runs();
        bits();
        prefix();
        matches();
        again();
        alter();
        cut();
        due.end();
    }

    private static void wrong() {
        due.promise("18 pack");
        Tested x = Due.of(1, 2);
        due.is("pack(0)", x.pack(0), 6);
        due.row("OUT", x, 1, 0, 0, 0, 2, 1, 2);
        for (int k : new int[] {-1, 1, Integer.MAX_VALUE, Integer.MIN_VALUE}) {
            due.is("pack(" + k + ")", x.pack(k), BAD);
        }
        due.row("OUT stays", x, 1, 0, 0, 0, 2, 1, 2);
        due.row("the text stays", x, 0, 1, 2);
        x.packer(2);
        x.clear();
        due.is("pack(1) of none", x.pack(1), 4);
        due.row("OUT", x, 1, 0, 2, 0, 0);
        x.fill(300, 1, 0);
        due.is("pack(0) of 300", x.pack(0), 304);
        due.is("octet(1, 2)", x.octet(1, 2), 1);
        due.is("octet(1, 3)", x.octet(1, 3), 44);
        due.is("pack(0) once more", x.pack(0), 304);
    }

    /** The text by one filter and STORED. */
    private static void by(int kind, int v, int[] text, int... want) {
        Tested x = Due.of(text);
        x.filter(kind, v);
        due.is("pack(1)", x.pack(1), 6 + want.length);
        due.row("kind " + kind + " by " + v + " of " + Arrays.toString(text), x, 1,
            join(new int[] {1, kind, v, 0, 0, want.length}, want));
        x.clear();
        due.is("unpack()", x.unpack(), text.length);
        due.row("back again", x, 0, text);
    }

    private static void filters() {
        due.promise("18 pack, FILTERS");
        by(1, 1, new int[] {5, 7, 4, 4}, 5, 2, 253, 0);
        by(1, 2, new int[] {5, 7, 4, 10}, 5, 7, 255, 3);
        by(1, 8, new int[] {1, 2, 3, 4, 5, 6, 7, 8, 9, 11}, 1, 2, 3, 4, 5, 6, 7, 8, 8, 9);
        by(1, 8, new int[] {1, 2}, 1, 2);
        by(2, 0, new int[] {2, 2, 0, 1, 255, 2}, 2, 0, 1, 2, 255, 3);
        by(2, 0, new int[] {0, 255, 255, 254, 0}, 0, 255, 0, 255, 2);
        by(3, 2, new int[] {1, 2, 3, 4, 5}, 1, 3, 5, 2, 4);
        by(3, 3, new int[] {0, 1, 2, 3, 4, 5, 6}, 0, 3, 6, 1, 4, 2, 5);
        by(3, 8, new int[] {3, 2, 1}, 3, 2, 1);
        by(3, 8, new int[] {0, 1, 2, 3, 4, 5, 6, 7, 8, 9}, 0, 8, 1, 9, 2, 3, 4, 5, 6, 7);
        by(4, 1, new int[] {0, 1, 255}, 1, 0, 254);
        by(4, 255, new int[] {0, 1, 255}, 255, 254, 0);
    }

    private static void filterPairs() {
        due.promise("18 pack, two FILTERS");
        Tested x = Due.of(1, 2);
        x.filter(1, 1);
        x.filter(4, 1);
        due.is("pack(3)", x.pack(3), 10);
        due.row("DELTA, then XOR", x, 1, 2, 1, 1, 4, 1, 0, 0, 2, 0, 0);
        due.is("pack(4)", x.pack(4), 10);
        due.row("XOR, then DELTA", x, 1, 2, 4, 1, 1, 1, 0, 0, 2, 0, 3);
        x.clear();
        due.is("unpack()", x.unpack(), 2);
        due.row("back again", x, 0, 1, 2);
        x.pack(3);
        x.clear();
        due.is("unpack()", x.unpack(), 2);
        due.row("back again", x, 0, 1, 2);
    }

    /** The text by one packer without filters; read again it is the same. */
    private static void to(int kind, int[] text, int... want) {
        Tested x = Due.of(text);
        x.packer(kind);
        String name = "packer " + kind + " of " + Arrays.toString(text);
        due.is(name, x.pack(1), 4 + want.length);
        due.is(name + ", chain(1, 5)", x.chain(1, 5), 4 + want.length);
        due.row(name, x, 1, join(new int[] {0, kind, text.length / 256, text.length % 256}, want));
        x.clear();
        due.is("unpack()", x.unpack(), text.length);
        due.row("back again", x, 0, text);
    }

    private static void runs() {
        due.promise("18 pack, RUNS");
        to(RUNS, new int[] {});
        to(RUNS, new int[] {9}, 0, 9);
        to(RUNS, new int[] {9, 9}, 128, 9);
        to(RUNS, new int[] {1, 1, 2, 3, 3, 3}, 128, 1, 0, 2, 129, 3);
        to(RUNS, new int[] {5, 6, 6, 7}, 3, 5, 6, 6, 7);
        to(RUNS, new int[] {5, 6, 6}, 2, 5, 6, 6);
        to(RUNS, new int[] {6, 6, 7}, 128, 6, 0, 7);
        to(RUNS, new int[] {5, 6, 6, 6}, 0, 5, 129, 6);
        to(RUNS, many(4, 129), 255, 4);
        to(RUNS, many(4, 130), 255, 4, 0, 4);
        to(RUNS, many(4, 131), 255, 4, 128, 4);
        to(RUNS, rising(128), join(new int[] {127}, rising(128)));
        to(RUNS, rising(129), join(join(new int[] {127}, rising(128)), 0, 128));
        // Three like ones from place 127 on: 127 bytes stand as they are.
        to(RUNS, join(rising(127), 200, 200, 200), join(join(new int[] {126}, rising(127)), 129, 200));
        // From place 128 on, and two alone from 127 on.
        to(RUNS, join(rising(128), 200, 200, 200), join(join(new int[] {127}, rising(128)), 129, 200));
        to(RUNS, join(rising(127), 200, 200), join(join(join(new int[] {127}, rising(127)), 200), 0, 200));
    }

    private static void bits() {
        due.promise("18 pack, BITS");
        to(BITS, new int[] {});
        to(BITS, new int[] {7}, 0, 7);
        to(BITS, new int[] {7, 7, 7}, 0, 7);
        to(BITS, new int[] {9, 7, 9}, 1, 7, 9, 160);
        to(BITS, new int[] {10, 20, 30, 20, 10}, 2, 10, 20, 30, 25, 0);
        to(BITS, new int[] {0, 1, 2, 255}, 3, 0, 1, 2, 255, 27);
        to(BITS, new int[] {4, 3, 2, 1, 0}, 4, 0, 1, 2, 3, 4, 0b10001101, 0b00010000);
        to(BITS, rising(256), join(join(new int[] {255}, rising(256)), rising(256)));
        Tested x = Due.of(rising(129));
        x.packer(BITS);
        due.is("129 unlike ones", x.pack(1), 4 + 1 + 129 + 129);
        x = Due.of(rising(128));
        x.packer(BITS);
        due.is("128 unlike ones", x.pack(1), 4 + 1 + 128 + 112);
    }

    private static void prefix() {
        due.promise("18 pack, PREFIX");
        to(PREFIX, new int[] {});
        to(PREFIX, new int[] {7}, 0, 7, 1, 0);
        to(PREFIX, many(7, 9), 0, 7, 1, 0, 0);
        to(PREFIX, new int[] {9, 7}, 1, 7, 1, 9, 1, 128);
        to(PREFIX, new int[] {1, 1, 1, 2, 2, 3}, 2, 1, 1, 2, 2, 3, 2, 21, 128);
        to(PREFIX, new int[] {3, 3, 3, 2, 2, 1}, 2, 1, 2, 2, 2, 3, 1, 0b00011111, 0);
        // Of like weights bytes come before what was joined: 1 and 2 are joined, not 1 and (3, 4).
        to(PREFIX, new int[] {1, 1, 2, 2, 3, 4}, 3, 1, 2, 2, 2, 3, 2, 4, 2, 5, 176);
        to(PREFIX, new int[] {0, 0, 255}, 1, 0, 1, 255, 1, 0b00100000);
        to(PREFIX, rising(256), join(join(new int[] {255}, eights()), rising(256)));
        // 1 and 2, then 3 and the two: of like ones the first.
        to(PREFIX, new int[] {1, 2, 3}, 2, 1, 2, 2, 2, 3, 1, 0b10110000);
        // 1 2, 3 4, then 5 is joined with (1 2), the first joined: (3 4) stays nearer.
        to(PREFIX, new int[] {1, 2, 3, 4, 5}, 4, 1, 3, 2, 3, 3, 2, 4, 2, 5, 2,
            0b11011100, 0b01100000);
        // Weights 1 1 2 3 5 8 13 21 34 55 89: the deepest tree that a text can have.
        int[] deep = {};
        int one = 1;
        int two = 1;
        for (int b = 0; b < 11; b++) {
            deep = join(deep, many(b, one));
            int sum = one + two;
            one = two;
            two = sum;
        }
        Tested x = Due.of(deep);
        x.packer(PREFIX);
        x.pack(1);
        for (int b = 0; b < 11; b++) {
            due.is("LENGTH of " + b, x.octet(1, 6 + 2 * b), b == 0 ? 10 : 11 - b);
        }
        x.clear();
        due.is("unpack()", x.unpack(), 232);
        due.row("back again", x, 0, deep);
    }

    private static void matches() {
        due.promise("18 pack, MATCHES");
        to(MATCHES, new int[] {});
        to(MATCHES, new int[] {7}, 0, 7);
        to(MATCHES, new int[] {7, 7, 7}, 2, 7, 7, 7);
        to(MATCHES, new int[] {7, 7, 7, 7}, 0, 7, 128, 1);
        to(MATCHES, new int[] {1, 2, 3, 1, 2}, 4, 1, 2, 3, 1, 2);
        to(MATCHES, new int[] {1, 2, 3, 1, 2, 3, 1}, 2, 1, 2, 3, 129, 3);
        to(MATCHES, many(7, 10), 0, 7, 134, 1);
        // Of like ones the least d.
        to(MATCHES, new int[] {1, 2, 3, 1, 2, 3, 9, 1, 2, 3}, 2, 1, 2, 3, 128, 3, 0, 9, 128, 4);
        to(MATCHES, new int[] {1, 2, 3, 1, 2, 3, 9, 1, 2, 3, 8}, 2, 1, 2, 3, 128, 3, 0, 9, 128, 4, 0, 8);
        to(MATCHES, new int[] {1, 2, 3, 1, 9, 3, 2, 2, 3}, 8, 1, 2, 3, 1, 9, 3, 2, 2, 3);
        to(MATCHES, many(0, 10), 0, 0, 134, 1);
        to(MATCHES, new int[] {0, 0, 0}, 2, 0, 0, 0);
        // The longest, although it is farther.
        to(MATCHES, new int[] {1, 2, 3, 4, 9, 1, 2, 3, 8, 1, 2, 3, 4}, 4, 1, 2, 3, 4, 9, 128, 5, 0, 8, 129, 9);
        to(MATCHES, many(7, 131), 0, 7, 255, 1);
        to(MATCHES, many(7, 140), 0, 7, 255, 1, 134, 1);
        to(MATCHES, many(7, 133), 0, 7, 255, 1, 1, 7, 7);
        to(MATCHES, rising(129), join(join(new int[] {127}, rising(128)), 0, 128));
        // 255 places before is near enough, 256 is not.
        int[] near = join(rising(255), 0, 1, 2);
        to(MATCHES, near, join(join(join(new int[] {127}, rising(128)), join(new int[] {126}, span(128, 255))),
            128, 255));
        int[] far = join(rising(256), 0, 1, 2);
        to(MATCHES, far, join(join(join(new int[] {127}, rising(128)), join(new int[] {127}, span(128, 256))),
            2, 0, 1, 2));
    }

    /** What one call has left in the tables does not reach the next one. */
    private static void again() {
        due.promise("18 pack, one after another");
        int[][] texts = {rising(256), {0, 5, 5, 5, 1}, {9}, many(7, 20), {1, 1, 2, 2, 3, 4}, {3, 3, 0, 0, 255, 254}};
        for (int[] before : texts) {
            for (int[] text : texts) {
                Tested x = withFront(before);
                for (int k = 0; k < 10; k++) {
                    x.pack(k);
                    due.is("unpack()", x.unpack(), before.length);
                }
                if (before != text) {
                    x.clear();
                    Due.put(x, text);
                }
                asFresh(x, text);
            }
        }
    }

    /** A new object with FRONT and all PACKERS: 10 CHAINS. */
    private static Tested withFront(int... text) {
        Tested x = Due.of(text);
        x.filter(2, 0);
        for (int kind = 1; kind <= 4; kind++) {
            x.packer(kind);
        }
        return x;
    }

    private static void asFresh(Tested x, int... text) {
        for (int k = 0; k < 10; k++) {
            Tested fresh = withFront(text);
            due.is("pack(" + k + ")", x.pack(k), fresh.pack(k));
            due.row("OUT", x, 1, Due.row(fresh, 1));
            x.clear();
            due.is("unpack()", x.unpack(), text.length);
            due.row("back again", x, 0, text);
        }
    }

    /** Each byte with the LENGTH 8. */
    private static int[] eights() {
        int[] row = new int[512];
        for (int b = 0; b < 256; b++) {
            row[2 * b] = b;
            row[2 * b + 1] = 8;
        }
        return row;
    }

    private static void alter() {
        due.promise("19 alter");
        Tested x = new Tested();
        due.is("alter(0, 0)", x.alter(0, 0), BAD);
        Due.put(x, 8, 9);
        x.pack(0);
        due.is("alter(4, 255)", x.alter(4, 255), 8);
        due.is("alter(4, 0)", x.alter(4, 0), 255);
        due.is("alter(5, 9)", x.alter(5, 9), 9);
        due.is("alter(6, 1)", x.alter(6, 1), BAD);
        due.is("alter(-1, 1)", x.alter(-1, 1), BAD);
        due.is("alter(0, 256)", x.alter(0, 256), BAD);
        due.is("alter(0, -1)", x.alter(0, -1), BAD);
        due.is("alter(most, 1)", x.alter(Integer.MAX_VALUE, 1), BAD);
        due.row("OUT", x, 1, 0, 0, 0, 2, 0, 9);
        due.row("the text", x, 0, 8, 9);
    }

    private static void cut() {
        due.promise("20 cut");
        Tested x = new Tested();
        due.is("cut(0)", x.cut(0), 0);
        due.is("cut(1)", x.cut(1), BAD);
        Due.put(x, 8, 9);
        x.pack(0);
        due.is("cut(7)", x.cut(7), BAD);
        due.is("cut(-1)", x.cut(-1), BAD);
        due.is("cut(least)", x.cut(Integer.MIN_VALUE), BAD);
        due.is("size(1)", x.size(1), 6);
        due.is("cut(6)", x.cut(6), 0);
        due.is("cut(4)", x.cut(4), 2);
        due.row("OUT", x, 1, 0, 0, 0, 2);
        due.is("octet(1, 4)", x.octet(1, 4), BAD);
        due.is("alter(4, 1)", x.alter(4, 1), BAD);
        due.is("cut(5)", x.cut(5), BAD);
        due.is("cut(0)", x.cut(0), 4);
        due.is("size(1)", x.size(1), 0);
        due.row("the text", x, 0, 8, 9);
    }
}
