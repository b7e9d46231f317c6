import java.util.ArrayList;
import java.util.List;

/** REFUSALS change nothing: behind each of them rows, choice, lessons, chains and place are as they were. */
public final class RefusalsTest extends Rows {
    private static final int BAD = ChainChoice.BAD, FULL = ChainChoice.FULL, NO = ChainChoice.NO;
    private static final int LEAST = Integer.MIN_VALUE, MOST = Integer.MAX_VALUE;
    private static final Due due = new Due();

    /** One call that is refused. */
    private interface Call {
        int on(Tested x);
    }

    /** An object in some state. */
    private interface State {
        Tested make();
    }

    public static void main(String[] args) {
        due.sentence("REFUSALS change nothing: BAD (-1) a number is none, or outside what is told;"
            + " FULL (-2); NO (-3) as told.");
        due.is("BAD", BAD, -1);
        due.is("FULL", FULL, -2);
        due.is("NO", NO, -3);
        State[] states = {Tested::new, RefusalsTest::small, RefusalsTest::whole, RefusalsTest::faulty,
            RefusalsTest::full};
        for (State state : states) {
            bad(state);
        }
        noes();
        fulls();
        badBeforeOthers();
        due.end();
    }

    // ---- states

    private static Tested small() {
        Tested x = Due.of(7, 7, 7, 7);
        x.packer(1);
        x.choose(100, 100);
        x.learn();
        x.pack(1);
        return x;
    }

    private static Tested whole() {
        Tested x = Due.of(1, 2, 3, 4, 5);
        x.filter(1, 1);
        x.filter(2, 0);
        x.filter(3, 2);
        x.filter(4, 9);
        for (int kind = 1; kind <= 4; kind++) {
            x.packer(kind);
        }
        x.choose(5000, 600);
        x.learn();
        x.pack(30);
        x.add(6);
        return x;
    }

    /** The latest unpack() had a FAULT, the choice is gone. */
    private static Tested faulty() {
        Tested x = small();
        x.alter(4, 255);
        x.unpack();
        x.filter(4, 1);
        return x;
    }

    private static Tested full() {
        Tested x = new Tested();
        x.fill(300, 3, 2);
        for (int i = 0; i < 4; i++) {
            x.filter(4, i + 1);
        }
        x.packer(2);
        x.choose(MOST, MOST);
        x.learn();
        x.pack(1);
        x.cut(20);
        return x;
    }

    // ---- what can be asked

    /** The ends of both rows, all numbers of the choice, what is learned, CHAINS, the place. */
    private static List<Integer> all(Tested x) {
        List<Integer> all = new ArrayList<>();
        for (int which = 0; which < 2; which++) {
            all.add(x.size(which));
            for (int i = 0; i < 12; i++) {
                all.add(x.octet(which, i));
                all.add(x.octet(which, x.size(which) - 1 - i));
            }
        }
        for (int what = 0; what < 6; what++) {
            all.add(x.told(what));
        }
        for (int feature = 0; feature < 64; feature++) {
            all.add(x.learned(feature));
        }
        all.add(x.feature());
        all.add(x.place());
        all.add(x.chains());
        int last = x.chains() - 1;
        for (int what = 0; what < 6; what++) {
            all.add(x.chain(0, what));
            all.add(x.chain(last, what));
            all.add(x.chain(last / 2, what));
        }
        all.add(x.unpack());
        all.add(x.place());
        all.add(x.size(0));
        all.add(x.pack(last));
        for (int i = 0; i < 12; i++) {
            all.add(x.octet(1, i));
        }
        return all;
    }

    private static void refused(State state, String name, int answer, Call call) {
        Tested x = state.make();
        due.is(name, call.on(x), answer);
        List<Integer> got = all(x);
        List<Integer> want = all(state.make());
        due.is(name + " changes nothing: " + got + ", due is " + want, got.equals(want) ? 1 : 0, 1);
    }

    // ---- refusals

    private static void bad(State state) {
        for (int none : of(-1, 256, LEAST, MOST)) {
            refused(state, "add(" + none + ")", BAD, x -> x.add(none));
            refused(state, "alter(0, " + none + ")", BAD, x -> x.alter(0, none));
        }
        for (int none : of(0, -1, 301, LEAST, MOST)) {
            refused(state, "fill(" + none + ", 1, 0)", BAD, x -> x.fill(none, 1, 0));
        }
        for (int none : of(-1, 4, LEAST, MOST)) {
            refused(state, "fill(1, 1, " + none + ")", BAD, x -> x.fill(1, 1, none));
        }
        for (int none : of(-1, 2, LEAST, MOST)) {
            refused(state, "size(" + none + ")", BAD, x -> x.size(none));
            refused(state, "octet(" + none + ", 0)", BAD, x -> x.octet(none, 0));
        }
        for (int none : of(-1, 1000, LEAST, MOST)) {
            refused(state, "octet(0, " + none + ")", BAD, x -> x.octet(0, none));
            refused(state, "octet(1, " + none + ")", BAD, x -> x.octet(1, none));
            refused(state, "alter(" + none + ", 0)", BAD, x -> x.alter(none, 0));
            refused(state, "cut(" + none + ")", BAD, x -> x.cut(none));
            refused(state, "pack(" + none + ")", BAD, x -> x.pack(none));
            refused(state, "chain(" + none + ", 0)", BAD, x -> x.chain(none, 0));
            refused(state, "chain(0, " + none + ")", BAD, x -> x.chain(0, none));
            refused(state, "told(" + none + ")", BAD, x -> x.told(none));
            refused(state, "learned(" + none + ")", BAD, x -> x.learned(none));
        }
        refused(state, "cut() of one more", BAD, x -> x.cut(x.size(1) + 1));
        refused(state, "alter() behind the last", BAD, x -> x.alter(x.size(1), 0));
        refused(state, "pack() behind the last", BAD, x -> x.pack(x.chains()));
        refused(state, "chain() behind the last", BAD, x -> x.chain(x.chains(), 5));
        for (int none : of(-1, 0, 5, LEAST, MOST)) {
            refused(state, "filter(" + none + ", 1)", BAD, x -> x.filter(none, 1));
            refused(state, "packer(" + none + ")", BAD, x -> x.packer(none));
        }
        int[][] none = {{1, 0}, {1, 9}, {2, 1}, {2, -1}, {3, 1}, {3, 9}, {4, 0}, {4, 256}};
        for (int[] one : none) {
            refused(state, "filter(" + one[0] + ", " + one[1] + ")", BAD, x -> x.filter(one[0], one[1]));
        }
        for (int below : of(-1, LEAST)) {
            refused(state, "choose(" + below + ", 0)", BAD, x -> x.choose(below, 0));
            refused(state, "choose(0, " + below + ")", BAD, x -> x.choose(0, below));
        }
        refused(state, "share(1, 0)", 1, RefusalsTest::throwing);
    }

    private static int throwing(Tested x) {
        try {
            x.share(1, 0);
            return 0;
        } catch (ArithmeticException e) {
            return 1;
        }
    }

    private static void noes() {
        refused(Tested::new, "learn()", NO, Tested::learn);
        refused(Tested::new, "told(0)", NO, x -> x.told(0));
        refused(Tested::new, "learned(0)", NO, x -> x.learned(0));
        refused(Tested::new, "chain(0, 0)", NO, x -> x.chain(0, 0));
        refused(Tested::new, "place()", NO, Tested::place);
        refused(RefusalsTest::faulty, "learn()", NO, Tested::learn);
        refused(RefusalsTest::small, "packer(1)", NO, x -> x.packer(1));
        for (int kind = 1; kind <= 4; kind++) {
            int told = kind;
            refused(RefusalsTest::whole, "packer(" + kind + ")", NO, x -> x.packer(told));
        }
        refused(RefusalsTest::whole, "chain(5, 1)", NO, x -> x.chain(5, 1));
    }

    private static void fulls() {
        refused(RefusalsTest::full, "add(9)", FULL, x -> x.add(9));
        refused(RefusalsTest::full, "fill(1, 1, 0)", FULL, x -> x.fill(1, 1, 0));
        refused(RefusalsTest::full, "fill(300, 1, 2)", FULL, x -> x.fill(300, 1, 2));
        refused(RefusalsTest::small, "fill(297, 1, 3)", FULL, x -> x.fill(297, 1, 3));
        refused(RefusalsTest::full, "filter(1, 1)", FULL, x -> x.filter(1, 1));
        refused(RefusalsTest::whole, "filter(2, 0)", FULL, x -> x.filter(2, 0));
    }

    /** What is none is BAD, also where there is no room for it or nothing to tell of. */
    private static void badBeforeOthers() {
        refused(RefusalsTest::full, "add(256)", BAD, x -> x.add(256));
        refused(RefusalsTest::full, "fill(301, 1, 0)", BAD, x -> x.fill(301, 1, 0));
        refused(RefusalsTest::full, "fill(1, 1, 4)", BAD, x -> x.fill(1, 1, 4));
        refused(RefusalsTest::full, "filter(3, 1)", BAD, x -> x.filter(3, 1));
        refused(Tested::new, "told(6)", BAD, x -> x.told(6));
        refused(Tested::new, "learned(64)", BAD, x -> x.learned(64));
    }
}
