/** What the document says of FILTERS at their edges, a sentence each. */
public final class FilterEdgesTest extends Rows {
    private static final int BAD = ChainChoice.BAD, FULL = ChainChoice.FULL;
    private static final int DELTA = 1, FRONT = 2, PLANES = 3, XOR = 4;
    private static final Due due = new Due();

    public static void main(String[] args) {
        kinds();
        deltaValues();
        deltaFromByteV();
        deltaOfTheRowAsItWas();
        frontValue();
        frontListAtFirst();
        frontComesToTheFront();
        planesValues();
        planesPlaces();
        xorValues();
        asLong();
        upToFour();
        any();
        firstThenSecond();
        due.end();
    }

    /** Of all v near the edges and far away only those from least to most are a FILTER of that kind. */
    private static void takes(int kind, int least, int most) {
        for (int v = -3; v < 520; v++) {
            int want = v >= least && v <= most ? 0 : BAD;
            due.is("filter(" + kind + ", " + v + ")", new Tested().filter(kind, v), want);
        }
        for (int v : of(Integer.MIN_VALUE, Integer.MAX_VALUE, -256, 65536 + least, least - 65536)) {
            due.is("filter(" + kind + ", " + v + ")", new Tested().filter(kind, v), BAD);
        }
    }

    /** What one FILTER makes of a text, which is read again to the same. */
    private static int[] made(int kind, int v, int... text) {
        Tested x = Due.of(text);
        x.filter(kind, v);
        due.is("pack(1)", x.pack(1), 6 + text.length);
        int[] out = Due.row(x, 1);
        x.clear();
        due.is("unpack()", x.unpack(), text.length);
        due.row("the text again", x, 0, text);
        return java.util.Arrays.copyOfRange(out, 6, out.length);
    }

    private static void kinds() {
        due.sentence("kind 1, DELTA by v");
        for (int kind : of(0, 5, 6, -1, 255, 256, 257, Integer.MIN_VALUE, Integer.MAX_VALUE)) {
            for (int v = -1; v < 10; v++) {
                due.is("filter(" + kind + ", " + v + ")", new Tested().filter(kind, v), BAD);
            }
        }
    }

    private static void deltaValues() {
        due.sentence("DELTA by v (1 .. 8)");
        takes(DELTA, 1, 8);
    }

    private static void deltaFromByteV() {
        due.sentence("from byte v on, the byte less the one v places before");
        for (int v = 1; v <= 8; v++) {
            for (int n : of(0, v - 1, v, v + 1, 2 * v, 2 * v + 1, 300)) {
                int[] text = mixed(n);
                int[] want = text.clone();
                for (int i = n - 1; i >= v; i--) {
                    want[i] = (256 + text[i] - text[i - v]) % 256;
                }
                due.same("DELTA by " + v + " of " + n, made(DELTA, v, text), want);
            }
        }
    }

    private static void deltaOfTheRowAsItWas() {
        due.sentence("(of the row as it was; modulo 256)");
        due.same("not of the row as it becomes", made(DELTA, 1, 1, 2, 4, 8), 1, 1, 2, 4);
        due.same("below 0", made(DELTA, 1, 0, 255, 0, 1, 0), 0, 255, 1, 1, 255);
        due.same("below 0 by 2", made(DELTA, 2, 255, 128, 0, 127, 255), 255, 128, 1, 255, 255);
    }

    private static void frontValue() {
        due.sentence("2, FRONT (v is 0)");
        takes(FRONT, 0, 0);
    }

    private static void frontListAtFirst() {
        due.sentence("the place of the byte in a list, 0 .. 255 at first");
        for (int b = 0; b < 256; b++) {
            due.same("the first byte", made(FRONT, 0, b), b);
        }
        Tested x = Due.of(255);
        x.filter(FRONT, 0);
        x.pack(1);
        x.pack(1);
        due.is("the list is 0 .. 255 each time", x.octet(1, 6), 255);
        x.unpack();
        due.is("and when it is read", x.unpack(), 1);
        due.row("the text", x, 0, 255);
    }

    private static void frontComesToTheFront() {
        due.sentence("in which it comes to the front then");
        due.same("the same again", made(FRONT, 0, 255, 255, 0, 0), 255, 0, 1, 0);
        due.same("one behind it", made(FRONT, 0, 5, 6, 5), 5, 6, 1);
        due.same("those behind it stay", made(FRONT, 0, 5, 6, 7, 4, 0), 5, 6, 7, 7, 4);
        due.same("rising", made(FRONT, 0, rising(256)), rising(256));
        int[] falling = new int[256];
        for (int i = 0; i < 256; i++) {
            falling[i] = 255 - i;
        }
        due.same("falling", made(FRONT, 0, falling), many(255, 256));
    }

    private static void planesValues() {
        due.sentence("3, PLANES by v (2 .. 8)");
        takes(PLANES, 2, 8);
    }

    private static void planesPlaces() {
        due.sentence("the bytes at places 0, v, 2 v, .., then those at 1, 1 + v, .., up to those at v - 1, ..");
        for (int v = 2; v <= 8; v++) {
            for (int n : of(0, 1, v - 1, v, v + 1, 2 * v - 1, 2 * v, 2 * v + 1, 299, 300)) {
                int[] text = mixed(n);
                int[] want = {};
                for (int first = 0; first < v; first++) {
                    for (int i = first; i < n; i += v) {
                        want = join(want, text[i]);
                    }
                }
                due.same("PLANES by " + v + " of " + n, made(PLANES, v, text), want);
            }
        }
    }

    private static void xorValues() {
        due.sentence("4, XOR by v (1 .. 255): the byte xor v");
        takes(XOR, 1, 255);
        for (int v : of(1, 2, 127, 128, 254, 255)) {
            int[] want = new int[256];
            for (int b = 0; b < 256; b++) {
                for (int bit = 1; bit < 256; bit *= 2) {
                    want[b] += b / bit % 2 != v / bit % 2 ? bit : 0;
                }
            }
            due.same("XOR by " + v, made(XOR, v, rising(256)), want);
        }
    }

    private static void asLong() {
        due.sentence("FILTERS make of a row another one, as long, byte by byte");
        int[][] told = {{DELTA, 8}, {FRONT, 0}, {PLANES, 7}, {XOR, 255}};
        for (int[] one : told) {
            for (int n : of(0, 1, 255, 256, 299, 300)) {
                due.is("kind " + one[0] + " of " + n, made(one[0], one[1], mixed(n)).length, n);
            }
        }
    }

    private static void upToFour() {
        due.sentence("Up to four are TOLD, any.");
        Tested x = new Tested();
        due.is("first", x.filter(DELTA, 1), 0);
        due.is("second", x.filter(FRONT, 0), 1);
        due.is("third", x.filter(PLANES, 2), 2);
        due.is("fourth", x.filter(XOR, 1), 3);
        due.is("fifth", x.filter(XOR, 2), FULL);
        due.is("fifth, as one that is told", x.filter(DELTA, 1), FULL);
        due.is("fifth that is none", x.filter(DELTA, 9), BAD);
        x.forget();
        due.is("from 0 again", x.filter(XOR, 2), 0);
    }

    private static void any() {
        due.sentence("Up to four are TOLD, any.");
        Tested x = new Tested();
        for (int i = 0; i < 4; i++) {
            due.is("FRONT once more", x.filter(FRONT, 0), i);
        }
        due.is("a fifth FRONT", x.filter(FRONT, 0), FULL);
    }

    private static void firstThenSecond() {
        due.sentence("what the PACKER makes of what the FILTERS make of THE TEXT");
        Tested x = Due.of(1, 2, 4, 7);
        x.filter(PLANES, 2);
        x.filter(DELTA, 1);
        // PLANES: 1 4 2 7, then DELTA; DELTA: 1 1 2 3, then PLANES.
        x.pack(3);
        due.row("PLANES, then DELTA", x, 1, 2, 3, 2, 1, 1, 0, 0, 4, 1, 3, 254, 5);
        due.is("unpack()", x.unpack(), 4);
        due.row("the text again", x, 0, 1, 2, 4, 7);
        x.pack(4);
        due.row("DELTA, then PLANES", x, 1, 2, 1, 1, 3, 2, 0, 0, 4, 1, 2, 1, 3);
        due.is("unpack()", x.unpack(), 4);
        due.row("the text again", x, 0, 1, 2, 4, 7);
    }
}
