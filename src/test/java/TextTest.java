/** Promises 1 to 6: a new object, clear, add, fill, size, octet. */
public final class TextTest {
    private static final int BAD = ChainChoice.BAD, FULL = ChainChoice.FULL, NO = ChainChoice.NO;
    private static final Due due = new Due();

    public static void main(String[] args) {
        newObject();
        clear();
        add();
        fill();
        sizeAndOctet();
        due.end();
    }

    private static void newObject() {
        due.promise("1 new");
        Tested x = new Tested();
        due.is("size(0)", x.size(0), 0);
        due.is("size(1)", x.size(1), 0);
        due.is("chains()", x.chains(), 1);
        due.is("chain(0, 0)", x.chain(0, 0), NO);
        due.is("chain(0, 2)", x.chain(0, 2), 0);
        due.is("told(0)", x.told(0), NO);
        due.is("place()", x.place(), NO);
        due.is("feature()", x.feature(), 0);
        for (int feature = 0; feature < 64; feature++) {
            due.is("learned(" + feature + ")", x.learned(feature), NO);
        }
        due.is("BAD", BAD, -1);
        due.is("FULL", FULL, -2);
        due.is("NO", NO, -3);
        Tested other = new Tested();
        x.add(1);
        due.is("another's size(0)", other.size(0), 0);
    }

    private static void clear() {
        due.promise("2 clear");
        Tested x = Due.of(1, 2, 3);
        x.pack(0);
        x.choose(100, 100);
        x.learn();
        due.is("clear()", x.clear(), 3);
        due.is("size(0)", x.size(0), 0);
        due.is("octet(0, 0)", x.octet(0, 0), BAD);
        due.row("OUT", x, 1, 0, 0, 0, 3, 1, 2, 3);
        due.is("told(3)", x.told(3), 7);
        due.is("learned(19)", x.learned(16 + 2), 0);
        due.is("clear()", x.clear(), 0);
    }

    private static void add() {
        due.promise("3 add");
        Tested x = new Tested();
        due.is("add(-1)", x.add(-1), BAD);
        due.is("add(256)", x.add(256), BAD);
        due.is("add(least)", x.add(Integer.MIN_VALUE), BAD);
        due.is("add(0)", x.add(0), 1);
        due.is("add(255)", x.add(255), 2);
        due.row("the text", x, 0, 0, 255);
        for (int i = 3; i <= 300; i++) {
            due.is("add(" + i % 256 + ")", x.add(i % 256), i);
        }
        due.is("add(1) to 300", x.add(1), FULL);
        due.is("add(256) to 300", x.add(256), BAD);
        due.is("size(0)", x.size(0), 300);
        due.is("octet(0, 299)", x.octet(0, 299), 300 % 256);
        x.clear();
        due.is("add(5) behind clear()", x.add(5), 1);
    }

    private static void fill() {
        due.promise("4 fill");
        Tested x = new Tested();
        due.is("fill(0, 1, 0)", x.fill(0, 1, 0), BAD);
        due.is("fill(-1, 1, 0)", x.fill(-1, 1, 0), BAD);
        due.is("fill(301, 1, 0)", x.fill(301, 1, 0), BAD);
        due.is("fill(1, 1, -1)", x.fill(1, 1, -1), BAD);
        due.is("fill(1, 1, 4)", x.fill(1, 1, 4), BAD);
        due.is("size(0)", x.size(0), 0);
        for (int seed : new int[] {0, 1, 5, -7, Integer.MAX_VALUE, Integer.MIN_VALUE, 123456789}) {
            for (int how = 0; how < 4; how++) {
                for (int n : new int[] {1, 2, 17, 298}) {
                    filled(n, seed, how);
                }
            }
        }
        x.fill(299, 3, 0);
        due.is("fill(2, 3, 0)", x.fill(2, 3, 0), FULL);
        due.is("fill(301, 3, 0) of few left", x.fill(301, 3, 0), BAD);
        due.is("fill(2, 3, 4) of few left", x.fill(2, 3, 4), BAD);
        due.is("size(0)", x.size(0), 299);
        due.is("fill(1, 3, 0)", x.fill(1, 3, 0), 300);
        due.is("fill(1, 3, 0)", x.fill(1, 3, 0), FULL);
        x.clear();
        due.is("fill(300, 3, 2)", x.fill(300, 3, 2), 300);
        seedOne();
    }

    /** Seed 1 by hand: x = 1103527590, 2524885223, 662824084, 3295386010; z = 16838, 38526, 10113, 50283. */
    private static void seedOne() {
        Tested x = new Tested();
        x.fill(4, 1, 0);
        x.fill(4, 1, 1);
        x.fill(4, 1, 3);
        due.row("seed 1", x, 0, 198, 126, 129, 107, 2, 2, 1, 3, 2, 4, 5, 8);
        x.clear();
        // 16838: 6, and 2104 % 8 = 0: once; 38526: 6, 4815 % 8 = 7: 8 times; 10113: 1, 1264 % 8 = 0: once.
        x.fill(12, 1, 2);
        due.row("seed 1, runs", x, 0, 6, 6, 6, 6, 6, 6, 6, 6, 6, 1, 3, 3);
    }

    private static void filled(int n, int seed, int how) {
        Tested x = Due.of(77, 78);
        int[] want = new int[n + 2];
        want[0] = 77;
        want[1] = 78;
        long state = seed & 0xffffffffL;
        int at = 0;
        while (at < n) {
            state = (state * 1103515245L + 12345L) & 0xffffffffL;
            long z = state / 65536;
            int times = how == 2 ? 1 + (int) (z / 8 % 8) : 1;
            long before = at == 0 ? 0 : want[at + 1];
            long b = how == 0 ? z % 256 : how == 1 ? z % 4 : how == 2 ? z % 8 : (before + z % 4) % 256;
            for (int i = 0; i < times && at < n; i++) {
                want[2 + at] = (int) b;
                at++;
            }
        }
        String call = "fill(" + n + ", " + seed + ", " + how + ")";
        due.is(call, x.fill(n, seed, how), n + 2);
        due.row(call, x, 0, want);
    }

    private static void sizeAndOctet() {
        due.promise("5 size, 6 octet");
        Tested x = Due.of(4, 5, 6);
        x.pack(0);
        x.add(7);
        due.is("size(0)", x.size(0), 4);
        due.is("size(1)", x.size(1), 7);
        due.is("size(2)", x.size(2), BAD);
        due.is("size(-1)", x.size(-1), BAD);
        due.is("octet(0, 0)", x.octet(0, 0), 4);
        due.is("octet(0, 3)", x.octet(0, 3), 7);
        due.is("octet(0, 4)", x.octet(0, 4), BAD);
        due.is("octet(0, -1)", x.octet(0, -1), BAD);
        due.is("octet(1, 6)", x.octet(1, 6), 6);
        due.is("octet(1, 7)", x.octet(1, 7), BAD);
        due.is("octet(1, -1)", x.octet(1, -1), BAD);
        due.is("octet(2, 0)", x.octet(2, 0), BAD);
        due.is("octet(-1, 0)", x.octet(-1, 0), BAD);
        due.is("octet(0, most)", x.octet(0, Integer.MAX_VALUE), BAD);
        due.is("octet(0, least)", x.octet(0, Integer.MIN_VALUE), BAD);
    }
}
