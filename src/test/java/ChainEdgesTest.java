/** What the document says of CHAINS at their edges (promises 7 to 11, 18), a sentence each. */
public final class ChainEdgesTest extends Rows {
    private static final int BAD = ChainChoice.BAD, FULL = ChainChoice.FULL, NO = ChainChoice.NO;
    private static final int[] STEPS_OF_FILTER = {0, 1, 16, 1, 1}, STEPS_OF_PACKER = {1, 2, 2, 4, 64};
    private static final int[] MEMORY_OF_FILTER = {0, 0, 256, 0, 0}, MEMORY_OF_PACKER = {0, 0, 256, 1024, 512};
    private static final String GONE = "What is chosen, what is learned are gone"
        + " when a FILTER, a PACKER more is TOLD, or all are forgotten.";
    private static final Due due = new Due();

    public static void main(String[] args) {
        howMany();
        numbered();
        twoUnlike();
        storedAlways();
        headOfPacked();
        twoBytesOfCount();
        goneByFilter();
        goneByPacker();
        goneByForget();
        notGoneOtherwise();
        steps();
        memory();
        mostOfParts();
        filterNumber();
        packerHowMany();
        packerWrong();
        packerAlready();
        forget();
        chainFilters();
        chainBytes();
        chainWrong();
        due.end();
    }

    /** Every FILTER kind and every PACKER, so that there are 85 CHAINS. */
    private static Tested whole(int... text) {
        Tested x = Due.of(text);
        x.filter(1, 1);
        x.filter(2, 0);
        x.filter(3, 2);
        x.filter(4, 255);
        for (int kind = 1; kind <= 4; kind++) {
            x.packer(kind);
        }
        return x;
    }

    private static Tested told(int filters, int packers) {
        Tested x = new Tested();
        for (int i = 1; i <= filters; i++) {
            x.filter(4, i);
        }
        for (int kind = 4; kind > 4 - packers; kind--) {
            x.packer(kind);
        }
        return x;
    }

    private static void howMany() {
        due.sentence("A CHAIN is no FILTER, one, or two unlike ones of those TOLD,"
            + " and STORED or a PACKER that is TOLD.");
        int[] byFilters = {1, 2, 5, 10, 17};
        for (int f = 0; f <= 4; f++) {
            for (int p = 0; p <= 4; p++) {
                Tested x = told(f, p);
                int want = byFilters[f] * (p + 1);
                due.is("chains() of " + f + " and " + p, x.chains(), want);
                due.is("the last", x.chain(want - 1, 2), p == 0 ? 0 : 5 - p);
                due.is("behind the last", x.chain(want, 2), BAD);
                due.is("pack() of the last", x.pack(want - 1), f == 0 ? 4 : f == 1 ? 6 : 8);
                due.is("pack() behind the last", x.pack(want), BAD);
            }
        }
    }

    private static void numbered() {
        due.sentence("They are numbered: those without FILTERS; with FILTER 0, 1, ..;"
            + " with 0 and 1, 0 and 2, .., 1 and 0, ..");
        int[][][] groups = {
            {{NO, NO}},
            {{NO, NO}, {0, NO}},
            {{NO, NO}, {0, NO}, {1, NO}, {0, 1}, {1, 0}},
            {{NO, NO}, {0, NO}, {1, NO}, {2, NO}, {0, 1}, {0, 2}, {1, 0}, {1, 2}, {2, 0}, {2, 1}},
            {{NO, NO}, {0, NO}, {1, NO}, {2, NO}, {3, NO}, {0, 1}, {0, 2}, {0, 3}, {1, 0}, {1, 2}, {1, 3},
                {2, 0}, {2, 1}, {2, 3}, {3, 0}, {3, 1}, {3, 2}}};
        for (int f = 0; f <= 4; f++) {
            for (int p = 0; p <= 4; p++) {
                Tested x = told(f, p);
                for (int k = 0; k < x.chains(); k++) {
                    String of = " of " + f + " and " + p;
                    due.is("chain(" + k + ", 0)" + of, x.chain(k, 0), groups[f][k / (p + 1)][0]);
                    due.is("chain(" + k + ", 1)" + of, x.chain(k, 1), groups[f][k / (p + 1)][1]);
                    due.is("chain(" + k + ", 2)" + of, x.chain(k, 2), k % (p + 1) == 0 ? 0 : 5 - k % (p + 1));
                }
            }
        }
    }

    private static void twoUnlike() {
        due.sentence("or two unlike ones of those TOLD");
        Tested x = told(4, 0);
        for (int k = 0; k < 17; k++) {
            due.yes("unlike in " + k, x.chain(k, 0) == NO || x.chain(k, 0) != x.chain(k, 1));
        }
    }

    private static void storedAlways() {
        due.sentence("each with STORED, then with PACKERS as they were TOLD");
        Tested x = new Tested();
        x.packer(4);
        x.packer(1);
        x.filter(1, 1);
        x.packer(3);
        int[] order = {0, 4, 1, 3, 0, 4, 1, 3};
        for (int k = 0; k < order.length; k++) {
            due.is("chain(" + k + ", 2)", x.chain(k, 2), order[k]);
        }
        x.forget();
        due.is("STORED stays", x.chain(0, 2), 0);
        due.is("and is packed by", x.pack(0), 4);
    }

    private static void headOfPacked() {
        due.sentence("how many FILTERS (0 .. 2), for each its kind and v, the kind of the PACKER");
        int[] values = {1, 0, 2, 255};
        Tested x = whole();
        for (int k = 0; k < 85; k++) {
            int[] head = {0};
            for (int which = 0; which < 2; which++) {
                int number = x.chain(k, which);
                if (number != NO) {
                    head[0]++;
                    head = join(head, number + 1, values[number]);
                }
            }
            Tested y = whole();
            due.is("pack(" + k + ")", y.pack(k), head.length + 3);
            due.row("OUT by " + k, y, 1, join(head, k % 5, 0, 0));
        }
    }

    private static void twoBytesOfCount() {
        due.sentence("how many bytes THE TEXT has (two bytes, the higher first)");
        for (int n : of(0, 1, 254, 255, 256, 257, 299, 300)) {
            Tested x = new Tested();
            if (n > 0) {
                x.fill(n, n, 0);
            }
            due.is("pack(0) of " + n, x.pack(0), 4 + n);
            due.is("the higher", x.octet(1, 2), n < 256 ? 0 : 1);
            due.is("the lower", x.octet(1, 3), n < 256 ? n : n - 256);
            due.is("unpack()", x.unpack(), n);
        }
    }

    /** 5 5 5 5 has the FEATURE 12; its choice is told and learned. */
    private static Tested chosen() {
        Tested x = Due.of(5, 5, 5, 5);
        x.packer(1);
        x.filter(4, 5);
        due.is("choose()", x.choose(100, 0), 1);
        due.is("learn()", x.learn(), 12);
        stays(x);
        return x;
    }

    private static void stays(Tested x) {
        int[] want = {4, 4 * (1 + 2 + 2 + 3), 1, 6, 0, 0};
        for (int what = 0; what < 6; what++) {
            due.is("told(" + what + ") stays", x.told(what), want[what]);
        }
        due.is("learned(12) stays", x.learned(12), 1);
        due.is("learned(13)", x.learned(13), NO);
    }

    private static void gone(Tested x) {
        for (int what = 0; what < 6; what++) {
            due.is("told(" + what + ") is gone", x.told(what), NO);
        }
        due.is("told(6)", x.told(6), BAD);
        due.is("learn()", x.learn(), NO);
        for (int feature = 0; feature < 64; feature++) {
            due.is("learned(" + feature + ") is gone", x.learned(feature), NO);
        }
    }

    private static void goneByFilter() {
        due.sentence(GONE);
        Tested x = chosen();
        due.is("filter(4, 5)", x.filter(4, 5), 1);
        gone(x);
    }

    private static void goneByPacker() {
        due.sentence(GONE);
        Tested x = chosen();
        due.is("packer(4)", x.packer(4), 2);
        gone(x);
    }

    private static void goneByForget() {
        due.sentence(GONE);
        Tested x = chosen();
        due.is("forget()", x.forget(), 4);
        gone(x);
        due.is("choose()", x.choose(100, 100), 0);
        due.is("learn()", x.learn(), 12);
        due.is("forget() where none is TOLD", x.forget(), 1);
        gone(x);
    }

    private static void notGoneOtherwise() {
        due.sentence(GONE);
        Tested x = chosen();
        due.is("filter() that is none", x.filter(1, 0), BAD);
        due.is("packer() that is none", x.packer(5), BAD);
        due.is("packer() that is told", x.packer(1), NO);
        stays(x);
        x.pack(2);
        x.alter(0, 3);
        x.unpack();
        x.cut(1);
        x.clear();
        x.add(9);
        x.fill(20, 1, 0);
        x.chain(1, 5);
        x.feature();
        stays(x);
        x = Due.of(5, 5, 5, 5);
        x.packer(1);
        for (int i = 0; i < 4; i++) {
            x.filter(2, 0);
        }
        x.choose(12, 0);
        x.learn();
        due.is("a fifth FILTER", x.filter(2, 0), FULL);
        due.is("told(2)", x.told(2), 1);
        due.is("learned(12)", x.learned(12), 1);
    }

    private static void steps() {
        due.sentence("STEPS a byte: all FILTERS 1, but FRONT 16; STORED 1, RUNS 2, BITS 2, PREFIX 4, MATCHES 64.");
        Tested x = whole();
        for (int k = 0; k < 85; k++) {
            int want = STEPS_OF_PACKER[k % 5];
            for (int which = 0; which < 2; which++) {
                want += x.chain(k, which) == NO ? 0 : STEPS_OF_FILTER[1 + x.chain(k, which)];
            }
            due.is("chain(" + k + ", 3)", x.chain(k, 3), want);
        }
        due.is("a text does not matter", whole(1, 2, 3).chain(84, 3), 66);
    }

    private static void memory() {
        due.sentence("MEMORY: FRONT 256, BITS 256, PREFIX 1024, MATCHES 512, others 0");
        Tested x = whole();
        for (int k = 0; k < 5; k++) {
            due.is("chain(" + k + ", 4)", x.chain(k, 4), MEMORY_OF_PACKER[k]);
        }
        for (int k = 5; k < 25; k += 5) {
            due.is("chain(" + k + ", 4)", x.chain(k, 4), MEMORY_OF_FILTER[k / 5]);
        }
    }

    private static void mostOfParts() {
        due.sentence("the most of its parts counts");
        Tested x = whole();
        for (int k = 0; k < 85; k++) {
            int want = MEMORY_OF_PACKER[k % 5];
            for (int which = 0; which < 2; which++) {
                want = Math.max(want, x.chain(k, which) == NO ? 0 : MEMORY_OF_FILTER[1 + x.chain(k, which)]);
            }
            due.is("chain(" + k + ", 4)", x.chain(k, 4), want);
        }
        // FRONT and BITS need 256 together, not 512.
        due.is("FRONT and BITS", x.chain(12, 4), 256);
        Tested y = new Tested();
        y.filter(2, 0);
        y.filter(2, 0);
        due.is("FRONT and FRONT", y.chain(3, 4), 256);
    }

    private static void filterNumber() {
        due.sentence("A FILTER is TOLD: its number, from 0. BAD, FULL.");
        Tested x = new Tested();
        for (int i = 0; i < 4; i++) {
            due.is("BAD while there is room", x.filter(2, 1), BAD);
            due.is("filter()", x.filter(1, 8 - i), i);
        }
        due.is("FULL", x.filter(1, 1), FULL);
        due.is("BAD where it is FULL", x.filter(2, 1), BAD);
        due.is("chains()", x.chains(), 17);
        x.pack(4);
        due.is("the fourth stays", x.octet(1, 2), 5);
    }

    private static void packerHowMany() {
        due.sentence("A PACKER (1 .. 4) is TOLD: how many are. BAD; NO: it is already.");
        int[][] orders = {{1, 2, 3, 4}, {4, 3, 2, 1}, {2, 4, 1, 3}};
        for (int[] order : orders) {
            Tested x = new Tested();
            for (int i = 0; i < 4; i++) {
                due.is("packer(" + order[i] + ")", x.packer(order[i]), i + 1);
            }
        }
    }

    private static void packerWrong() {
        due.sentence("A PACKER (1 .. 4) is TOLD: how many are. BAD; NO: it is already.");
        Tested x = new Tested();
        for (int kind : of(0, 5, -1, -4, 6, 255, 256, 257, Integer.MIN_VALUE, Integer.MAX_VALUE)) {
            due.is("packer(" + kind + ")", x.packer(kind), BAD);
        }
        due.is("chains()", x.chains(), 1);
        Tested y = whole();
        for (int kind : of(0, 5, -1)) {
            due.is("packer(" + kind + ") where all are TOLD", y.packer(kind), BAD);
        }
    }

    private static void packerAlready() {
        due.sentence("NO: it is already.");
        for (int kind = 1; kind <= 4; kind++) {
            Tested x = new Tested();
            due.is("packer(" + kind + ")", x.packer(kind), 1);
            due.is("packer(" + kind + ") again", x.packer(kind), NO);
            due.is("chains()", x.chains(), 2);
            x.forget();
            due.is("packer(" + kind + ") behind forget()", x.packer(kind), 1);
        }
        Tested y = whole();
        for (int kind = 1; kind <= 4; kind++) {
            due.is("packer(" + kind + ") where all are TOLD", y.packer(kind), NO);
        }
        due.is("chains()", y.chains(), 85);
    }

    private static void forget() {
        due.sentence("No FILTERS, PACKERS are TOLD any more: how many CHAINS there were.");
        due.is("forget() of none", new Tested().forget(), 1);
        Tested x = whole(1, 2, 3);
        x.pack(0);
        due.is("forget()", x.forget(), 85);
        due.is("chains()", x.chains(), 1);
        due.is("forget() again", x.forget(), 1);
        due.row("the text stays", x, 0, 1, 2, 3);
        due.row("OUT stays", x, 1, 0, 0, 0, 3, 1, 2, 3);
        due.is("filter() from 0", x.filter(4, 9), 0);
        due.is("packer() from 1", x.packer(2), 1);
        due.is("chains()", x.chains(), 4);
        x.pack(2);
        due.row("by the new one", x, 1, 1, 4, 9, 0, 0, 3, 8, 11, 10);
    }

    private static void chainFilters() {
        due.sentence("what = 0, 1 its FILTERS' numbers (NO: it has not so many)");
        Tested x = whole();
        due.is("chain(0, 0)", x.chain(0, 0), NO);
        due.is("chain(4, 0)", x.chain(4, 0), NO);
        due.is("chain(4, 1)", x.chain(4, 1), NO);
        due.is("chain(5, 0)", x.chain(5, 0), 0);
        due.is("chain(5, 1)", x.chain(5, 1), NO);
        due.is("chain(24, 0)", x.chain(24, 0), 3);
        due.is("chain(24, 1)", x.chain(24, 1), NO);
        due.is("chain(25, 0)", x.chain(25, 0), 0);
        due.is("chain(25, 1)", x.chain(25, 1), 1);
        due.is("chain(84, 0)", x.chain(84, 0), 3);
        due.is("chain(84, 1)", x.chain(84, 1), 2);
    }

    private static void chainBytes() {
        due.sentence("5 how many bytes THE TEXT is PACKED to by it");
        for (int n : of(0, 1, 2, 63, 128, 129, 300)) {
            for (int how = 0; how < 4; how++) {
                Tested x = whole();
                if (n > 0) {
                    x.fill(n, 77, how);
                }
                x.pack(0);
                x.cut(2);
                for (int k = 0; k < 85; k++) {
                    int bytes = x.chain(k, 5);
                    due.is("size(1): OUT stays", x.size(1), 2);
                    due.is("chain(" + k + ", 5)", bytes, x.pack(k));
                    x.cut(2);
                }
            }
        }
    }

    private static void chainWrong() {
        due.sentence("5 how many bytes THE TEXT is PACKED to by it. BAD.");
        Tested x = whole(1, 2);
        for (int k : of(-1, 85, 86, 256, Integer.MIN_VALUE, Integer.MAX_VALUE)) {
            for (int what = -1; what <= 6; what++) {
                due.is("chain(" + k + ", " + what + ")", x.chain(k, what), BAD);
            }
            due.is("pack(" + k + ")", x.pack(k), BAD);
        }
        for (int what : of(-1, 6, 7, 256, Integer.MIN_VALUE, Integer.MAX_VALUE)) {
            due.is("chain(0, " + what + ")", x.chain(0, what), BAD);
            due.is("chain(84, " + what + ")", x.chain(84, what), BAD);
        }
        due.is("size(1)", x.size(1), 0);
    }
}
