/** Promises 7 to 11: filter, packer, forget, chains, chain. */
public final class ChainsTest {
    private static final int BAD = ChainChoice.BAD, FULL = ChainChoice.FULL, NO = ChainChoice.NO;
    private static final Due due = new Due();

    public static void main(String[] args) {
        filter();
        packer();
        forget();
        goneChoices();
        numbers();
        likeFilters();
        costs();
        due.end();
    }

    private static void filter() {
        due.promise("7 filter");
        int[][] bad = {{0, 0}, {0, 1}, {5, 1}, {-1, 1}, {1, 0}, {1, 9}, {1, -1}, {2, 1}, {2, -1}, {3, 0}, {3, 1},
            {3, 9}, {4, 0}, {4, 256}, {4, -1}, {Integer.MAX_VALUE, 1}, {Integer.MIN_VALUE, 1}};
        Tested x = new Tested();
        for (int[] one : bad) {
            due.is("filter(" + one[0] + ", " + one[1] + ")", x.filter(one[0], one[1]), BAD);
        }
        due.is("chains()", x.chains(), 1);
        int[][] good = {{1, 1}, {1, 8}, {2, 0}, {3, 2}, {3, 8}, {4, 1}, {4, 255}};
        for (int[] one : good) {
            due.is("filter(" + one[0] + ", " + one[1] + ")", new Tested().filter(one[0], one[1]), 0);
        }
        for (int i = 0; i < 4; i++) {
            due.is("filter(" + good[i][0] + ")", x.filter(good[i][0], good[i][1]), i);
        }
        due.is("a fifth", x.filter(4, 9), FULL);
        due.is("a fifth that is none", x.filter(4, 256), BAD);
        due.is("chains()", x.chains(), 17);
    }

    private static void packer() {
        due.promise("8 packer");
        Tested x = new Tested();
        for (int kind : new int[] {0, 5, -1, Integer.MAX_VALUE, Integer.MIN_VALUE}) {
            due.is("packer(" + kind + ")", x.packer(kind), BAD);
        }
        due.is("packer(3)", x.packer(3), 1);
        due.is("packer(3)", x.packer(3), NO);
        due.is("packer(1)", x.packer(1), 2);
        due.is("packer(1)", x.packer(1), NO);
        due.is("packer(4)", x.packer(4), 3);
        due.is("packer(2)", x.packer(2), 4);
        for (int kind = 1; kind <= 4; kind++) {
            due.is("packer(" + kind + ")", x.packer(kind), NO);
        }
        due.is("packer(0)", x.packer(0), BAD);
        int[] order = {0, 3, 1, 4, 2};
        for (int k = 0; k < 5; k++) {
            due.is("chain(" + k + ", 2)", x.chain(k, 2), order[k]);
        }
    }

    private static void forget() {
        due.promise("9 forget, 10 chains");
        Tested x = new Tested();
        due.is("forget()", x.forget(), 1);
        int[] filters = {1, 2, 5, 10, 17};
        for (int f = 0; f <= 4; f++) {
            for (int p = 0; p <= 4; p++) {
                for (int i = 0; i < f; i++) {
                    due.is("filter()", x.filter(4, i + 1), i);
                }
                for (int i = 1; i <= p; i++) {
                    due.is("packer()", x.packer(i), i);
                }
                due.is("chains() of " + f + ", " + p, x.chains(), filters[f] * (p + 1));
                due.is("forget() of " + f + ", " + p, x.forget(), filters[f] * (p + 1));
                due.is("chains()", x.chains(), 1);
                due.is("chain(1, 0)", x.chain(1, 0), BAD);
            }
        }
        due.is("packer(2) once more", x.packer(2), 1);
        due.is("chain(1, 2)", x.chain(1, 2), 2);
    }

    private static void goneChoices() {
        due.promise("what is chosen, learned is gone");
        Tested x = Due.of(1, 1);
        chosen(x);
        due.is("filter(0, 0)", x.filter(0, 0), BAD);
        due.is("packer(0)", x.packer(0), BAD);
        due.is("told(2) stays", x.told(2), 0);
        due.is("learned(8) stays", x.learned(8), 0);
        x.filter(1, 1);
        gone(x);
        chosen(x);
        x.packer(1);
        gone(x);
        chosen(x);
        due.is("packer(1)", x.packer(1), NO);
        due.is("told(2) stays", x.told(2), 0);
        due.is("learned(8) stays", x.learned(8), 0);
        x.filter(1, 1);
        x.filter(1, 1);
        x.filter(1, 1);
        chosen(x);
        due.is("filter(1, 1)", x.filter(1, 1), FULL);
        due.is("learned(8) stays", x.learned(8), 0);
        x.forget();
        gone(x);
        chosen(x);
        due.is("forget()", x.forget(), 1);
        gone(x);
    }

    private static void chosen(Tested x) {
        due.is("choose(9, 9)", x.choose(9, 9), 0);
        due.is("learn()", x.learn(), 8);
        due.is("learned(8)", x.learned(8), 0);
    }

    private static void gone(Tested x) {
        due.is("told(2)", x.told(2), NO);
        due.is("learn()", x.learn(), NO);
        due.is("learned(8)", x.learned(8), NO);
    }

    private static void numbers() {
        due.promise("11 chain");
        Tested x = new Tested();
        x.filter(1, 1);
        x.filter(2, 0);
        x.filter(3, 2);
        x.packer(4);
        x.packer(1);
        int[][] groups = {{NO, NO}, {0, NO}, {1, NO}, {2, NO}, {0, 1}, {0, 2}, {1, 0}, {1, 2}, {2, 0}, {2, 1}};
        int[] packers = {0, 4, 1};
        int k = 0;
        for (int[] group : groups) {
            for (int kind : packers) {
                due.is("chain(" + k + ", 0)", x.chain(k, 0), group[0]);
                due.is("chain(" + k + ", 1)", x.chain(k, 1), group[1]);
                due.is("chain(" + k + ", 2)", x.chain(k, 2), kind);
                k++;
            }
        }
        due.is("chains()", x.chains(), k);
        for (int what = 0; what < 6; what++) {
            due.is("chain(30, " + what + ")", x.chain(30, what), BAD);
            due.is("chain(-1, " + what + ")", x.chain(-1, what), BAD);
            due.is("chain(most, " + what + ")", x.chain(Integer.MAX_VALUE, what), BAD);
            due.is("chain(least, " + what + ")", x.chain(Integer.MIN_VALUE, what), BAD);
        }
        due.is("chain(0, 6)", x.chain(0, 6), BAD);
        due.is("chain(0, -1)", x.chain(0, -1), BAD);
    }

    /** The same filter told twice has two numbers, and makes chains of both. */
    private static void likeFilters() {
        due.promise("11 chain, like filters");
        Tested x = Due.of(1, 2, 4, 8);
        due.is("filter(1, 1)", x.filter(1, 1), 0);
        due.is("filter(1, 1)", x.filter(1, 1), 1);
        due.is("chains()", x.chains(), 5);
        due.is("chain(3, 1)", x.chain(3, 1), 1);
        due.is("chain(4, 0)", x.chain(4, 0), 1);
        due.is("pack(3)", x.pack(3), 12);
        due.row("OUT", x, 1, 2, 1, 1, 1, 1, 0, 0, 4, 1, 0, 1, 2);
    }

    private static void costs() {
        due.promise("11 chain, steps, memory, bytes");
        int[] packerSteps = {1, 2, 2, 4, 64};
        int[] packerMemory = {0, 0, 256, 1024, 512};
        int[] filterSteps = {1, 16, 1, 1};
        int[] filterMemory = {0, 256, 0, 0};
        Tested x = Due.of(3, 3, 3, 3, 3, 3);
        int[] bodies = {6, 2, 2, 4, 4};
        for (int kind = 1; kind <= 4; kind++) {
            x.packer(kind);
        }
        x.filter(1, 3);
        x.filter(2, 0);
        x.filter(3, 3);
        x.filter(4, 3);
        for (int k = 0; k < x.chains(); k++) {
            int steps = packerSteps[k % 5];
            int memory = packerMemory[k % 5];
            for (int which = 0; which < 2; which++) {
                int filter = x.chain(k, which);
                if (filter != NO) {
                    steps += filterSteps[filter];
                    memory = Math.max(memory, filterMemory[filter]);
                }
            }
            due.is("chain(" + k + ", 3)", x.chain(k, 3), steps);
            due.is("chain(" + k + ", 4)", x.chain(k, 4), memory);
        }
        for (int k = 0; k < 5; k++) {
            due.is("chain(" + k + ", 5)", x.chain(k, 5), 4 + bodies[k]);
            due.is("chain(" + (20 + k) + ", 5)", x.chain(20 + k, 5), 6 + bodies[k]);
        }
        due.is("size(1)", x.size(1), 0);
        x.clear();
        due.is("chain(0, 5) of none", x.chain(0, 5), 4);
        due.is("chain(24, 5) of none", x.chain(24, 5), 6);
        due.is("chain(84, 5) of none", x.chain(84, 5), 8);
    }
}
