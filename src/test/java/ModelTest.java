import java.util.Random;

/** Long runs of calls, drawn by fixed seeds, on the class and on the model of the document: all answers alike. */
public final class ModelTest {
    private static final int RUNS = 400, CALLS = 300;
    private static final int[] ODD = {-1, 0, 1, 2, 3, 4, 5, 6, 8, 9, 63, 64, 255, 256, 300, 301, 512,
        Integer.MAX_VALUE, Integer.MIN_VALUE};

    private final Due due;
    private final Random random;
    private final Tested x = new Tested();
    private final Model m = new Model();

    private ModelTest(Due due, int seed) {
        this.due = due;
        this.random = new Random(seed);
    }

    public static void main(String[] args) {
        Due due = new Due();
        for (int run = 0; run < RUNS; run++) {
            due.promise("run " + run);
            new ModelTest(due, run).run();
        }
        due.end();
    }

    private void run() {
        int calls = 0;
        while (calls < CALLS) {
            calls += step();
        }
    }

    private int below(int n) {
        return random.nextInt(n);
    }

    private int odd() {
        return ODD[below(ODD.length)];
    }

    /** Now and then a number that is likely none. */
    private int mostly(int usual) {
        return below(12) == 0 ? odd() : usual;
    }

    private int step() {
        switch (below(20)) {
            case 0: return tellFilter();
            case 1: return tellPacker();
            case 2: return below(6) == 0 ? forget() : 1;
            case 3: return same("clear()", x.clear(), m.clear());
            case 4: return addSome();
            case 5:
            case 6: return fill();
            case 7:
            case 8: return choose();
            case 9: return ask();
            case 10: return askChain();
            case 11:
            case 12: return pack();
            case 13:
            case 14: return spoil();
            case 15: return spoilHead();
            case 16: return cut();
            default: return unpack();
        }
    }

    private int same(String call, long got, long want) {
        due.is(call, got, want);
        return 1;
    }

    private int rows() {
        for (int which = 0; which < 2; which++) {
            int n = m.size(which);
            same("size(" + which + ")", x.size(which), n);
            for (int i = 0; i < n; i++) {
                if (x.octet(which, i) != m.octet(which, i)) {
                    return same("octet(" + which + ", " + i + ")", x.octet(which, i), m.octet(which, i));
                }
            }
        }
        return 0;
    }

    private int tellFilter() {
        int kind = mostly(1 + below(4));
        int v = mostly(kind == 2 ? 0 : kind == 4 ? 1 + below(255) : 2 + below(7));
        return same("filter(" + kind + ", " + v + ")", x.filter(kind, v), m.filter(kind, v));
    }

    private int tellPacker() {
        int kind = mostly(1 + below(4));
        return same("packer(" + kind + ")", x.packer(kind), m.packer(kind));
    }

    private int forget() {
        return same("forget()", x.forget(), m.forget());
    }

    private int addSome() {
        int many = 1 + below(6);
        int first = below(256);
        for (int i = 0; i < many; i++) {
            int b = mostly((first + below(3)) % 256);
            same("add(" + b + ")", x.add(b), m.add(b));
        }
        return many + rows();
    }

    private int fill() {
        if (below(2) == 0) {
            same("clear()", x.clear(), m.clear());
        }
        int n = mostly(below(3) == 0 ? 1 + below(300) : 1 + below(40));
        int seed = random.nextInt();
        int how = mostly(below(4));
        same("fill(" + n + ", " + seed + ", " + how + ")", x.fill(n, seed, how), m.fill(n, seed, how));
        return 2 + rows();
    }

    private int choose() {
        int steps = mostly(below(2) == 0 ? 1_000_000 : below(20_000));
        int memory = mostly(below(2) == 0 ? 2000 : below(1100));
        same("choose(" + steps + ", " + memory + ")", x.choose(steps, memory), m.choose(steps, memory));
        for (int what = -1; what <= 6; what++) {
            same("told(" + what + ")", x.told(what), m.told(what));
        }
        return 9;
    }

    private int ask() {
        same("feature()", x.feature(), m.feature());
        if (below(2) == 0) {
            same("learn()", x.learn(), m.learn());
        }
        for (int feature = -1; feature <= 64; feature++) {
            if (x.learned(feature) != m.learned(feature)) {
                same("learned(" + feature + ")", x.learned(feature), m.learned(feature));
            }
        }
        int which = odd();
        int i = odd();
        same("size(" + which + ")", x.size(which), m.size(which));
        same("octet(" + which + ", " + i + ")", x.octet(which, i), m.octet(which, i));
        return 10;
    }

    private int askChain() {
        same("chains()", x.chains(), m.chains());
        int k = mostly(below(m.chains()));
        for (int what = -1; what <= 6; what++) {
            same("chain(" + k + ", " + what + ")", x.chain(k, what), m.chain(k, what));
        }
        return 9;
    }

    private int pack() {
        int k = mostly(below(m.chains()));
        same("pack(" + k + ")", x.pack(k), m.pack(k));
        return 1 + rows();
    }

    private int alter(int i, int b) {
        return same("alter(" + i + ", " + b + ")", x.alter(i, b), m.alter(i, b));
    }

    private int spoil() {
        int n = m.size(1);
        int i = mostly(n == 0 ? 0 : below(n));
        int old = m.octet(1, i);
        int b = mostly(below(2) == 0 ? below(256) : (old ^ 1 << below(8)) & 255);
        alter(i, b);
        int calls = 1 + unpack();
        if (old >= 0 && below(2) == 0) {
            calls += alter(i, old);
        }
        return calls;
    }

    /** Another packer, filter or number of bytes over what was packed by one. */
    private int spoilHead() {
        alter(below(9), below(5));
        return 1 + unpack();
    }

    private int cut() {
        int n = m.size(1);
        int to = mostly(below(3) == 0 ? below(n + 1) : Math.max(0, n - 1 - below(3)));
        same("cut(" + to + ")", x.cut(to), m.cut(to));
        return 1 + unpack();
    }

    private int unpack() {
        same("unpack()", x.unpack(), m.unpack());
        same("place()", x.place(), m.place());
        return 2 + rows();
    }
}
