/** What the document says of THE TEXT and OUT at their edges (promises 1 to 6, 18 to 20), a sentence each. */
public final class TextEdgesTest extends Rows {
    private static final int BAD = ChainChoice.BAD, FULL = ChainChoice.FULL, NO = ChainChoice.NO;
    private static final int LEAST = Integer.MIN_VALUE, MOST = Integer.MAX_VALUE;
    private static final Due due = new Due();

    public static void main(String[] args) {
        newObject();
        used512Times();
        upTo300();
        clear();
        clearEmpty();
        addBytes();
        addFull();
        fillCount();
        fillFull();
        fillHow();
        fillWraps();
        fillRunsTillThereAreN();
        fillByteBefore();
        fillModulo();
        size();
        octet();
        pack();
        packLongest();
        packShorter();
        alter();
        alterEmpty();
        cut();
        cutEmpty();
        cutIsGone();
        due.end();
    }

    private static void newObject() {
        due.sentence("No bytes, no FILTERS, no PACKERS but STORED, nothing learned.");
        Tested x = new Tested();
        due.is("size(0)", x.size(0), 0);
        due.is("size(1)", x.size(1), 0);
        due.is("octet(0, 0)", x.octet(0, 0), BAD);
        due.is("octet(1, 0)", x.octet(1, 0), BAD);
        due.is("chains()", x.chains(), 1);
        due.is("chain(0, 0)", x.chain(0, 0), NO);
        due.is("chain(0, 1)", x.chain(0, 1), NO);
        due.is("chain(0, 2)", x.chain(0, 2), 0);
        due.is("chain(0, 3)", x.chain(0, 3), 1);
        due.is("chain(0, 4)", x.chain(0, 4), 0);
        due.is("chain(0, 5)", x.chain(0, 5), 4);
        due.is("chain(1, 0)", x.chain(1, 0), BAD);
        for (int what = 0; what < 6; what++) {
            due.is("told(" + what + ")", x.told(what), NO);
        }
        for (int feature = 0; feature < 64; feature++) {
            due.is("learned(" + feature + ")", x.learned(feature), NO);
        }
        due.is("learn()", x.learn(), NO);
        due.is("feature()", x.feature(), 0);
        due.is("place()", x.place(), NO);
        due.is("clear()", x.clear(), 0);
        due.is("cut(0)", x.cut(0), 0);
        due.is("forget()", x.forget(), 1);
    }

    /** One object for all of its calls, so that none of those that it is promised for is left out. */
    private static void used512Times() {
        due.sentence("An object is used for at most 512 calls after it has been made");
        ChainChoice x = new ChainChoice();
        x.packer(4);
        // Two calls before and five in each turn: the last turn ends with call 512.
        x.filter(2, 0);
        for (int turn = 0; turn < 102; turn++) {
            due.is("fill()", x.fill(300, turn, turn % 4), 300);
            due.yes("pack()", x.pack(turn % 4) > 4);
            due.is("clear()", x.clear(), 300);
            due.is("unpack()", x.unpack(), 300);
            due.is("clear()", x.clear(), 300);
        }
    }

    private static void upTo300() {
        due.sentence("THE TEXT and OUT are rows of bytes (0 .. 255); THE TEXT has up to 300.");
        Tested x = new Tested();
        for (int n = 1; n <= 300; n++) {
            due.is("add()", x.add(n % 256), n);
        }
        due.is("the 301st", x.add(0), FULL);
        due.is("fill(1, 1, 0)", x.fill(1, 1, 0), FULL);
        due.is("size(0)", x.size(0), 300);
        due.is("pack(0)", x.pack(0), 304);
        due.is("unpack()", x.unpack(), 300);
        x.alter(3, 45);
        due.is("unpack() of 301", x.unpack(), -11);
        due.is("size(0)", x.size(0), 300);
    }

    private static void clear() {
        due.sentence("THE TEXT is empty (OUT stays): how many bytes it had.");
        Tested x = Due.of(1, 2, 3);
        x.pack(0);
        due.is("clear()", x.clear(), 3);
        due.is("size(0)", x.size(0), 0);
        due.row("OUT stays", x, 1, 0, 0, 0, 3, 1, 2, 3);
        due.is("unpack()", x.unpack(), 3);
        due.row("the text", x, 0, 1, 2, 3);
        Tested y = new Tested();
        y.fill(300, 1, 0);
        due.is("clear() of 300", y.clear(), 300);
        due.is("fill() again", y.fill(300, 1, 0), 300);
    }

    private static void clearEmpty() {
        due.sentence("THE TEXT is empty (OUT stays): how many bytes it had.");
        Tested x = new Tested();
        due.is("clear() of none", x.clear(), 0);
        x.add(9);
        due.is("clear() of one", x.clear(), 1);
        due.is("clear() once more", x.clear(), 0);
        due.is("octet(0, 0)", x.octet(0, 0), BAD);
        due.is("pack(0)", x.pack(0), 4);
    }

    private static void addBytes() {
        due.sentence("A byte more: how many there are. BAD, FULL.");
        Tested x = new Tested();
        for (int b : of(-1, 256, 257, -255, -256, 512, LEAST, MOST)) {
            due.is("add(" + b + ")", x.add(b), BAD);
        }
        due.is("size(0)", x.size(0), 0);
        for (int b = 0; b < 256; b++) {
            due.is("add(" + b + ")", x.add(b), b + 1);
        }
        due.is("octet(0, 0)", x.octet(0, 0), 0);
        due.is("octet(0, 127)", x.octet(0, 127), 127);
        due.is("octet(0, 128)", x.octet(0, 128), 128);
        due.is("octet(0, 255)", x.octet(0, 255), 255);
    }

    private static void addFull() {
        due.sentence("A byte more: how many there are. BAD, FULL.");
        Tested x = new Tested();
        x.fill(299, 1, 0);
        due.is("add(9) to 299", x.add(9), 300);
        due.is("add(8) to 300", x.add(8), FULL);
        due.is("add(256) to 300", x.add(256), BAD);
        due.is("add(-1) to 300", x.add(-1), BAD);
        due.is("octet(0, 299)", x.octet(0, 299), 9);
        due.is("octet(0, 300)", x.octet(0, 300), BAD);
    }

    private static void fillCount() {
        due.sentence("n (1 .. 300) bytes more");
        for (int how = 0; how < 4; how++) {
            for (int n : of(0, -1, 301, 302, LEAST, MOST)) {
                Tested x = new Tested();
                due.is("fill(" + n + ", 1, " + how + ")", x.fill(n, 1, how), BAD);
                due.is("size(0)", x.size(0), 0);
            }
            for (int n : of(1, 2, 299, 300)) {
                Tested x = new Tested();
                due.is("fill(" + n + ", 1, " + how + ")", x.fill(n, 1, how), n);
                due.is("size(0)", x.size(0), n);
            }
        }
    }

    private static void fillFull() {
        due.sentence("How many there are. BAD, FULL: not all have room.");
        for (int how = 0; how < 4; how++) {
            Tested x = Due.of(9);
            due.is("fill(300) of 1", x.fill(300, 1, how), FULL);
            due.is("size(0)", x.size(0), 1);
            due.is("fill(299) of 1", x.fill(299, 1, how), 300);
            due.is("fill(1) of 300", x.fill(1, 1, how), FULL);
            due.is("fill(300) of 300", x.fill(300, 1, how), FULL);
            due.is("fill(301) of 300", x.fill(301, 1, how), BAD);
            due.is("fill(0) of 300", x.fill(0, 1, how), BAD);
            due.is("fill(1) of 300, how 4", x.fill(1, 1, 4), BAD);
            due.is("the first stays", x.octet(0, 0), 9);
        }
        Tested y = new Tested();
        y.fill(250, 1, 2);
        due.is("fill(51) of 250", y.fill(51, 1, 2), FULL);
        due.is("fill(50) of 250", y.fill(50, 1, 2), 300);
    }

    private static void fillHow() {
        due.sentence("how = 0 z modulo 256 each; 1 z modulo 4; 2 a byte z modulo 8");
        for (int how : of(-1, 4, 5, LEAST, MOST)) {
            Tested x = new Tested();
            due.is("fill(1, 1, " + how + ")", x.fill(1, 1, how), BAD);
            due.is("size(0)", x.size(0), 0);
        }
        // Seed 1: z = 16838, 38526, 10113, 50283, 63819, 38395, 55778, 40187.
        int[][] rows = {{198, 126, 129, 107, 75, 251, 226, 251}, {2, 2, 1, 3, 3, 3, 2, 3}};
        for (int how = 0; how < 2; how++) {
            Tested x = new Tested();
            x.fill(8, 1, how);
            due.row("how = " + how, x, 0, rows[how]);
        }
    }

    private static void fillWraps() {
        due.sentence("(32 bits, wrapping) for each draw, z is x moved right by 16 (0s come in)");
        for (int seed : of(0, 1, -1, 2, 65536, LEAST, MOST, 1 << 30, -987654321)) {
            long x = seed < 0 ? seed + 4294967296L : seed;
            int[] want = new int[300];
            for (int i = 0; i < 300; i++) {
                x = (x * 1103515245L + 12345L) % 4294967296L;
                // The product is below 2^63, so that nothing is lost here.
                want[i] = (int) (x / 65536 % 256);
            }
            Tested y = new Tested();
            y.fill(300, seed, 0);
            due.row("seed " + seed, y, 0, want);
        }
    }

    private static void fillRunsTillThereAreN() {
        due.sentence("2 a byte z modulo 8, 1 + (z / 8) modulo 8 times (till there are n)");
        // Seed 1: 6 once, 6 eight times, 1 once, 3 and so on.
        int[] want = {6, 6, 6, 6, 6, 6, 6, 6, 6, 1, 3, 3};
        for (int n = 1; n <= want.length; n++) {
            Tested x = new Tested();
            due.is("fill(" + n + ", 1, 2)", x.fill(n, 1, 2), n);
            due.row("of " + n, x, 0, java.util.Arrays.copyOf(want, n));
        }
        // What was cut off does not come with the next fill().
        Tested y = new Tested();
        y.fill(3, 1, 2);
        y.fill(3, 1, 2);
        due.row("twice", y, 0, 6, 6, 6, 6, 6, 6);
        y.fill(294, 5, 2);
        due.is("up to 300", y.size(0), 300);
    }

    private static void fillByteBefore() {
        due.sentence("3 the byte before (0 at first, of these n) and z modulo 4, modulo 256.");
        Tested x = Due.of(100);
        x.fill(4, 1, 3);
        x.fill(4, 1, 3);
        // Seed 1: 2, 2, 1, 3 are added; neither 100 nor 8 is the byte before the first.
        due.row("the text", x, 0, 100, 2, 4, 5, 8, 2, 4, 5, 8);
    }

    private static void fillModulo() {
        due.sentence("3 the byte before (0 at first, of these n) and z modulo 4, modulo 256.");
        Tested x = new Tested();
        Tested steps = new Tested();
        x.fill(300, 1, 3);
        // The same draws modulo 4, one by one.
        steps.fill(300, 1, 1);
        int sum = 0;
        for (int i = 0; i < 300; i++) {
            sum += steps.octet(0, i);
            due.is("octet(0, " + i + ")", x.octet(0, i), sum % 256);
        }
        due.yes("it goes over 255", sum > 255);
    }

    private static void size() {
        due.sentence("How many bytes THE TEXT has (which = 0), OUT has (1). BAD.");
        Tested x = Due.of(1, 2);
        x.pack(0);
        x.add(3);
        due.is("size(0)", x.size(0), 3);
        due.is("size(1)", x.size(1), 6);
        for (int which : of(-1, 2, 3, 256, LEAST, MOST)) {
            due.is("size(" + which + ")", x.size(which), BAD);
        }
    }

    private static void octet() {
        due.sentence("Byte i of THE TEXT (which = 0), of OUT (1). BAD.");
        Tested x = Due.of(1, 255);
        x.pack(0);
        x.add(3);
        due.is("octet(0, 0)", x.octet(0, 0), 1);
        due.is("octet(0, 2)", x.octet(0, 2), 3);
        due.is("octet(1, 0)", x.octet(1, 0), 0);
        due.is("octet(1, 5)", x.octet(1, 5), 255);
        for (int i : of(-1, 3, 6, 299, 300, LEAST, MOST)) {
            due.is("octet(0, " + i + ")", x.octet(0, i), BAD);
        }
        for (int i : of(-1, 6, 7, 300, 1024, LEAST, MOST)) {
            due.is("octet(1, " + i + ")", x.octet(1, i), BAD);
        }
        for (int which : of(-1, 2, LEAST, MOST)) {
            due.is("octet(" + which + ", 0)", x.octet(which, 0), BAD);
            due.is("octet(" + which + ", -1)", x.octet(which, -1), BAD);
        }
        x.clear();
        x.cut(0);
        due.is("octet(0, 0) of none", x.octet(0, 0), BAD);
        due.is("octet(1, 0) of none", x.octet(1, 0), BAD);
    }

    private static void pack() {
        due.sentence("OUT is THE TEXT PACKED by a CHAIN: how many bytes. BAD.");
        Tested x = Due.of(5, 5);
        for (int k : of(-1, 1, 2, LEAST, MOST)) {
            due.is("pack(" + k + ")", x.pack(k), BAD);
        }
        due.is("size(1)", x.size(1), 0);
        due.is("pack(0)", x.pack(0), 6);
        due.is("pack(1)", x.pack(1), BAD);
        due.row("OUT stays", x, 1, 0, 0, 0, 2, 5, 5);
        x.packer(1);
        due.row("OUT stays", x, 1, 0, 0, 0, 2, 5, 5);
        due.is("pack(1)", x.pack(1), 6);
        due.row("OUT", x, 1, 0, 1, 0, 2, 128, 5);
        due.is("pack(2)", x.pack(2), BAD);
        due.row("the text stays", x, 0, 5, 5);
        x.clear();
        due.is("pack(1) of none", x.pack(1), 4);
        due.row("OUT", x, 1, 0, 1, 0, 0);
    }

    private static void packLongest() {
        due.sentence("OUT is THE TEXT PACKED by a CHAIN: how many bytes. BAD.");
        Tested x = new Tested();
        for (int i = 0; i < 300; i++) {
            x.add(i % 256);
        }
        x.filter(4, 1);
        x.filter(4, 2);
        x.packer(3);
        // 256 unlike bytes: a head of 8, 513 of table; 44 of them twice, whose codes have 7 or 8 bits.
        int bytes = x.pack(9);
        due.yes("more than 800 bytes: " + bytes, bytes > 800);
        due.is("size(1)", x.size(1), bytes);
        due.is("chain(9, 5)", x.chain(9, 5), bytes);
        int[] text = Due.row(x, 0);
        x.clear();
        due.is("unpack()", x.unpack(), 300);
        due.row("the text again", x, 0, text);
        due.is("alter() of the last", x.alter(bytes - 1, 0) >= 0 ? 1 : 0, 1);
        due.is("alter() behind it", x.alter(bytes, 0), BAD);
        due.is("cut(" + bytes + ")", x.cut(bytes), 0);
        due.is("cut(1)", x.cut(1), bytes - 1);
    }

    private static void packShorter() {
        due.sentence("OUT is THE TEXT PACKED by a CHAIN: how many bytes. BAD.");
        Tested x = Due.of(many(7, 300));
        x.packer(1);
        due.is("pack(0)", x.pack(0), 304);
        due.is("pack(1)", x.pack(1), 10);
        due.row("nothing of the longer one stays", x, 1, 0, 1, 1, 44, 255, 7, 255, 7, 168, 7);
        due.is("octet(1, 10)", x.octet(1, 10), BAD);
    }

    private static void alter() {
        due.sentence("A byte of OUT becomes another one: what it was. BAD.");
        Tested x = Due.of(8, 9);
        x.pack(0);
        due.is("alter(0, 255)", x.alter(0, 255), 0);
        due.is("alter(0, 0)", x.alter(0, 0), 255);
        due.is("alter(5, 9), the same", x.alter(5, 9), 9);
        due.is("alter(5, 128)", x.alter(5, 128), 9);
        for (int i : of(-1, 6, 7, LEAST, MOST)) {
            due.is("alter(" + i + ", 1)", x.alter(i, 1), BAD);
        }
        for (int b : of(-1, 256, 257, LEAST, MOST)) {
            due.is("alter(0, " + b + ")", x.alter(0, b), BAD);
            due.is("alter(6, " + b + ")", x.alter(6, b), BAD);
        }
        due.row("OUT", x, 1, 0, 0, 0, 2, 8, 128);
        due.row("the text stays", x, 0, 8, 9);
    }

    private static void alterEmpty() {
        due.sentence("A byte of OUT becomes another one: what it was. BAD.");
        Tested x = Due.of(8, 9);
        due.is("alter(0, 0) of none", x.alter(0, 0), BAD);
        due.is("size(1)", x.size(1), 0);
    }

    private static void cut() {
        due.sentence("OUT keeps its first n bytes: how many are gone. BAD.");
        Tested x = Due.of(8, 9);
        x.pack(0);
        for (int n : of(-1, 7, 8, LEAST, MOST)) {
            due.is("cut(" + n + ")", x.cut(n), BAD);
        }
        due.row("OUT stays", x, 1, 0, 0, 0, 2, 8, 9);
        due.is("cut(6)", x.cut(6), 0);
        due.row("OUT stays", x, 1, 0, 0, 0, 2, 8, 9);
        due.is("cut(5)", x.cut(5), 1);
        due.is("cut(6)", x.cut(6), BAD);
        due.row("OUT", x, 1, 0, 0, 0, 2, 8);
        due.is("cut(0)", x.cut(0), 5);
        due.row("OUT", x, 1);
        due.row("the text stays", x, 0, 8, 9);
    }

    private static void cutEmpty() {
        due.sentence("OUT keeps its first n bytes: how many are gone. BAD.");
        Tested x = new Tested();
        due.is("cut(0)", x.cut(0), 0);
        due.is("cut(1)", x.cut(1), BAD);
        due.is("cut(-1)", x.cut(-1), BAD);
    }

    private static void cutIsGone() {
        due.sentence("OUT keeps its first n bytes: how many are gone. BAD.");
        Tested x = Due.of(8, 9);
        x.pack(0);
        x.cut(4);
        due.is("octet(1, 4)", x.octet(1, 4), BAD);
        due.is("alter(4, 8)", x.alter(4, 8), BAD);
        due.is("unpack()", x.unpack(), -12);
        due.is("place()", x.place(), 4);
    }
}
