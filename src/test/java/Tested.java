import java.util.ArrayList;
import java.util.List;

/**
 * A ChainChoice as the tests use it. What an object answers behind its 512th call is free, so before call 513 a new
 * object takes its place, on which all calls that may have changed something are made again.
 */
final class Tested {
    private static final int MOST_CALLS = 512;

    private final List<Change> changes = new ArrayList<>();
    private ChainChoice object = new ChainChoice();
    private int calls = 0;

    /** A call that may change something. */
    private interface Change {
        int on(ChainChoice x);
    }

    /** The object, for one call more. */
    private ChainChoice next() {
        if (calls == MOST_CALLS) {
            if (changes.size() == MOST_CALLS) {
                throw new IllegalStateException("a test changes one object more than 512 times");
            }
            object = new ChainChoice();
            for (Change change : changes) {
                change.on(object);
            }
            calls = changes.size();
        }
        calls++;
        return object;
    }

    private int change(Change call) {
        int answer = call.on(next());
        changes.add(call);
        return answer;
    }

    int clear() {
        return change(ChainChoice::clear);
    }

    int add(int b) {
        return change(x -> x.add(b));
    }

    int fill(int n, int seed, int how) {
        return change(x -> x.fill(n, seed, how));
    }

    int size(int which) {
        return next().size(which);
    }

    int octet(int which, int i) {
        return next().octet(which, i);
    }

    int filter(int kind, int v) {
        return change(x -> x.filter(kind, v));
    }

    int packer(int kind) {
        return change(x -> x.packer(kind));
    }

    int forget() {
        return change(ChainChoice::forget);
    }

    int chains() {
        return next().chains();
    }

    int chain(int k, int what) {
        return next().chain(k, what);
    }

    int choose(int steps, int memory) {
        return change(x -> x.choose(steps, memory));
    }

    int told(int what) {
        return next().told(what);
    }

    int learn() {
        return change(ChainChoice::learn);
    }

    int feature() {
        return next().feature();
    }

    int learned(int feature) {
        return next().learned(feature);
    }

    long share(int part, int all) {
        return next().share(part, all);
    }

    int pack(int k) {
        return change(x -> x.pack(k));
    }

    int alter(int i, int b) {
        return change(x -> x.alter(i, b));
    }

    int cut(int n) {
        return change(x -> x.cut(n));
    }

    int unpack() {
        return change(ChainChoice::unpack);
    }

    int place() {
        return next().place();
    }
}
