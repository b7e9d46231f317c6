import java.util.Arrays;

/**
 * Texts packed by chains of filters and a packer; the least chain is chosen, learned, and read again.
 *
 * Every row that a call needs is made with the object and used again: no call makes an object.
 */
public final class ChainChoice {
    public static final int BAD = -1, FULL = -2, NO = -3;

    private static final int TEXT_ROOM = 300;
    // The longest is PREFIX: a head of 8, 1 + 2 * 256 of table, and codes that together never pass 300 bytes.
    private static final int OUT_ROOM = 1024;
    private static final int BYTES = 256;
    // The head of a CHAIN without FILTERS: their number, the PACKER, two bytes of how many.
    private static final int LEAST_HEAD = 4;

    private static final int DELTA = 1, FRONT = 2, PLANES = 3, XOR = 4;
    private static final int STORED = 0, RUNS = 1, BITS = 2, PREFIX = 3, MATCHES = 4;
    private static final int MOST_FILTERS = 4, MOST_IN_CHAIN = 2;

    // By kind; filters have no kind 0.
    private static final int[] FILTER_STEPS = {0, 1, 16, 1, 1};
    private static final int[] FILTER_MEMORY = {0, 0, 256, 0, 0};
    private static final int[] PACKER_STEPS = {1, 2, 2, 4, 64};
    private static final int[] PACKER_MEMORY = {0, 0, 256, 1024, 512};

    // An item's first byte below this tells bytes that stand as they are.
    private static final int PLAIN_ITEMS = 128, MOST_PLAIN = 128;
    private static final int RUN_LESS = 126, LEAST_RUN = 2, MOST_RUN = 129;
    private static final int MATCH_LESS = 125, LEAST_MATCH = 3, MOST_MATCH = 130, FARTHEST = 255;
    private static final int MOST_LENGTH = 15;

    private static final int FAULT_NUMBER = 1, FAULT_ENDS = 2, FAULT_GOES_ON = 3, FAULT_ITEM = 4;

    // What told() tells, by number.
    private static final int TRIED = 0, TAKEN = 1, CHOSEN = 2, LEAST = 3, NOT_OFFERED = 4, WAS_FLAT = 5;
    private static final int TOLD_KINDS = 6;
    private static final int FEATURES = 64;

    private final Row text = new Row(TEXT_ROOM);
    private final Row out = new Row(OUT_ROOM);
    private final Row trial = new Row(OUT_ROOM);
    private final Row once = new Row(TEXT_ROOM);
    private final Row twice = new Row(TEXT_ROOM);
    private final Chains list = new Chains();
    private final Filters filters = new Filters();
    private final Packers packers = new Packers();
    private final Unpacker unpacker = new Unpacker();
    private final Traits traits = new Traits();
    private final int[] choice = new int[TOLD_KINDS];
    private final int[] lessons = new int[FEATURES];
    private boolean hasChoice = false;
    private int faultPlace = NO;

    public ChainChoice() {
        Arrays.fill(lessons, NO);
    }

    // ---- the text

    public int clear() {
        int had = text.count();
        text.empty();
        return had;
    }

    public int add(int b) {
        if (!isByte(b)) {
            return BAD;
        }
        if (text.count() >= TEXT_ROOM) {
            return FULL;
        }
        text.push(b);
        return text.count();
    }

    public int fill(int n, int seed, int how) {
        if (n < 1 || n > TEXT_ROOM || how < 0 || how > 3) {
            return BAD;
        }
        if (n > TEXT_ROOM - text.count()) {
            return FULL;
        }
        int end = text.count() + n;
        int x = seed;
        int before = 0;
        for (int draw = 0; draw < n && text.count() < end; draw++) {
            x = x * 1103515245 + 12345;
            int z = x >>> 16;
            int b = drawn(z, how, before);
            int times = how == 2 ? 1 + (z / 8) % 8 : 1;
            for (int i = 0; i < times && text.count() < end; i++) {
                text.push(b);
            }
            before = b;
        }
        return text.count();
    }

    public int size(int which) {
        if (which != 0 && which != 1) {
            return BAD;
        }
        return rowOf(which).count();
    }

    public int octet(int which, int i) {
        if (which != 0 && which != 1) {
            return BAD;
        }
        Row row = rowOf(which);
        return row.has(i) ? row.get(i) : BAD;
    }

    // ---- chains

    public int filter(int kind, int v) {
        if (!Filters.takes(kind, v)) {
            return BAD;
        }
        if (list.filterCount() >= MOST_FILTERS) {
            return FULL;
        }
        list.tellFilter(kind, v);
        dropChoices();
        return list.filterCount() - 1;
    }

    public int packer(int kind) {
        if (kind < RUNS || kind > MATCHES) {
            return BAD;
        }
        if (list.hasPacker(kind)) {
            return NO;
        }
        list.tellPacker(kind);
        dropChoices();
        return list.packerCount() - 1;
    }

    public int forget() {
        int were = list.many();
        list.tellNothing();
        dropChoices();
        return were;
    }

    public int chains() {
        return list.many();
    }

    public int chain(int k, int what) {
        if (!list.has(k)) {
            return BAD;
        }
        switch (what) {
            case 0:
            case 1:
                return list.filterOf(k, what);
            case 2:
                return list.packerOf(k);
            case 3:
                return list.stepsOf(k);
            case 4:
                return list.memoryOf(k);
            case 5:
                writeHead(k, trial);
                packers.write(list.packerOf(k), filtered(k), trial);
                return trial.count();
            default:
                return BAD;
        }
    }

    // ---- choosing

    public int choose(int steps, int memory) {
        if (steps < 0 || memory < 0) {
            return BAD;
        }
        boolean flat = traits.isFlat(text);
        Arrays.fill(choice, 0);
        hasChoice = true;
        // CHAIN 0 needs no MEMORY, so it is the first tried or none is: it stands as the best either way.
        choice[LEAST] = text.count() + LEAST_HEAD;
        if (flat) {
            choice[WAS_FLAT] = 1;
        } else {
            tryChains(steps, memory);
        }
        return choice[CHOSEN];
    }

    public int told(int what) {
        if (what < 0 || what >= choice.length) {
            return BAD;
        }
        return hasChoice ? choice[what] : NO;
    }

    public int learn() {
        if (!hasChoice) {
            return NO;
        }
        int likeness = traits.featureOf(text);
        if (likeness >= 0 && likeness < lessons.length) {
            lessons[likeness] = choice[CHOSEN];
        }
        return likeness;
    }

    public int feature() {
        return traits.featureOf(text);
    }

    public int learned(int feature) {
        if (feature < 0 || feature >= lessons.length) {
            return BAD;
        }
        return lessons[feature];
    }

    public long share(int part, int all) throws ArithmeticException {
        if (all == 0) {
            throw new ArithmeticException("a share of 0");
        }
        return 1000L * part / all;
    }

    // ---- packed

    public int pack(int k) {
        if (!list.has(k)) {
            return BAD;
        }
        writeHead(k, out);
        packers.write(list.packerOf(k), filtered(k), out);
        return out.count();
    }

    public int alter(int i, int b) {
        if (!out.has(i) || !isByte(b)) {
            return BAD;
        }
        int was = out.get(i);
        out.set(i, b);
        return was;
    }

    public int cut(int n) {
        if (n < 0 || n > out.count()) {
            return BAD;
        }
        int gone = out.count() - n;
        out.keep(n);
        return gone;
    }

    public int unpack() {
        unpacker.readHead(out);
        unpacker.readBody();
        int fault = unpacker.finish(text);
        faultPlace = fault == 0 ? NO : unpacker.faultPlace();
        return fault == 0 ? text.count() : -10 - fault;
    }

    public int place() {
        return faultPlace;
    }

    // ---- within

    private static boolean isByte(int b) {
        return b >= 0 && b < BYTES;
    }

    private static int drawn(int z, int how, int before) {
        switch (how) {
            case 0:
                return z % 256;
            case 1:
                return z % 4;
            case 2:
                return z % 8;
            default:
                return (before + z % 4) % 256;
        }
    }

    private Row rowOf(int which) {
        return which == 0 ? text : out;
    }

    private void dropChoices() {
        hasChoice = false;
        Arrays.fill(lessons, NO);
    }

    private Row filtered(int k) {
        Row row = text;
        int first = list.filterOf(k, 0);
        if (first != NO) {
            filters.make(list.kindOf(first), list.valueOf(first), row, once);
            row = once;
        }
        int second = list.filterOf(k, 1);
        if (second != NO) {
            filters.make(list.kindOf(second), list.valueOf(second), row, twice);
            row = twice;
        }
        return row;
    }

    private void writeHead(int k, Row to) {
        int many = list.filtersIn(k);
        to.empty();
        to.push(many);
        for (int which = 0; which < many; which++) {
            int number = list.filterOf(k, which);
            to.push(list.kindOf(number));
            to.push(list.valueOf(number));
        }
        to.push(list.packerOf(k));
        to.push(text.count() >> 8);
        to.push(text.count());
    }

    private void tryChains(int steps, int memory) {
        int many = list.many();
        int left = steps;
        // CHAINS of one group differ by their PACKER alone, so their FILTERS run once for all of them.
        int group = -1;
        Row body = text;
        for (int k = 0; k < many; k++) {
            if (list.memoryOf(k) > memory) {
                choice[NOT_OFFERED]++;
                continue;
            }
            int cost = list.stepsOf(k) * text.count();
            if (cost > left) {
                break;
            }
            left -= cost;
            if (list.groupOf(k) != group) {
                group = list.groupOf(k);
                body = filtered(k);
            }
            writeHead(k, trial);
            packers.write(list.packerOf(k), body, trial);
            choice[TRIED]++;
            choice[TAKEN] += cost;
            if (isBetter(k, trial.count())) {
                choice[CHOSEN] = k;
                choice[LEAST] = trial.count();
            }
        }
    }

    private boolean isBetter(int k, int bytes) {
        if (bytes != choice[LEAST]) {
            return bytes < choice[LEAST];
        }
        return list.stepsOf(k) < list.stepsOf(choice[CHOSEN]);
    }

    /** Bytes in a row; what would not fit into its room is left out. */
    private static final class Row {
        private final int[] cells;
        private int length = 0;

        Row(int room) {
            cells = new int[room > 0 ? room : 0];
        }

        int count() {
            return length;
        }

        boolean has(int i) {
            return i >= 0 && i < length;
        }

        int get(int i) {
            return i >= 0 && i < length ? cells[i] : 0;
        }

        void set(int i, int b) {
            if (i >= 0 && i < length) {
                cells[i] = b & 255;
            }
        }

        void push(int b) {
            if (length < cells.length) {
                cells[length] = b & 255;
                length++;
            }
        }

        void empty() {
            length = 0;
        }

        void keep(int n) {
            if (n >= 0 && n < length) {
                length = n;
            }
        }

        void become(Row other) {
            length = Math.min(other.length, cells.length);
            System.arraycopy(other.cells, 0, cells, 0, length);
        }

        /** How often each byte stands here goes to the table: how many unlike ones there are. */
        int countInto(int[] often) {
            Arrays.fill(often, 0);
            int unlike = 0;
            for (int i = 0; i < length; i++) {
                int b = cells[i];
                if (b < 0 || b >= often.length) {
                    continue;
                }
                if (often[b] == 0) {
                    unlike++;
                }
                often[b]++;
            }
            return unlike;
        }
    }

    /** What a text is like: whether it is FLAT, and its FEATURE. */
    private static final class Traits {
        private final int[] often = new int[BYTES];

        boolean isFlat(Row row) {
            int n = row.count();
            if (n < 64) {
                return false;
            }
            row.countInto(often);
            for (int b = 0; b < BYTES; b++) {
                if (often[b] > 2 + n / 32) {
                    return false;
                }
            }
            return true;
        }

        int featureOf(Row row) {
            int like = 0;
            int near = 0;
            for (int i = 1; i < row.count(); i++) {
                int apart = Math.abs(row.get(i) - row.get(i - 1));
                if (apart == 0) {
                    like++;
                } else if (apart <= 2) {
                    near++;
                }
            }
            return 16 * variety(row) + 4 * quarters(like, row.count()) + quarters(near, row.count());
        }

        private int variety(Row row) {
            int unlike = row.countInto(often);
            if (unlike <= 2) {
                return 0;
            }
            if (unlike <= 16) {
                return 1;
            }
            return unlike <= 64 ? 2 : 3;
        }

        private static int quarters(int places, int n) {
            return n <= 0 ? 0 : Math.min(3, 4 * places / n);
        }
    }

    /** The FILTERS and PACKERS that are TOLD, and the CHAINS that they make by number. */
    private static final class Chains {
        private final int[] kinds = new int[MOST_FILTERS];
        private final int[] values = new int[MOST_FILTERS];
        private int filterCount = 0;
        // STORED stands first and is never forgotten.
        private final int[] packers = new int[MATCHES + 1];
        private int packerCount = 1;

        int filterCount() {
            return filterCount;
        }

        int packerCount() {
            return packerCount;
        }

        void tellFilter(int kind, int v) {
            if (filterCount < kinds.length) {
                kinds[filterCount] = kind;
                values[filterCount] = v;
                filterCount++;
            }
        }

        void tellPacker(int kind) {
            if (packerCount < packers.length) {
                packers[packerCount] = kind;
                packerCount++;
            }
        }

        void tellNothing() {
            filterCount = 0;
            packerCount = 1;
        }

        boolean hasPacker(int kind) {
            for (int i = 0; i < packerCount; i++) {
                if (packers[i] == kind) {
                    return true;
                }
            }
            return false;
        }

        int many() {
            int pairs = filterCount * (filterCount - 1);
            return (1 + filterCount + pairs) * packerCount;
        }

        boolean has(int k) {
            return k >= 0 && k < many();
        }

        int groupOf(int k) {
            return packerCount > 0 ? k / packerCount : 0;
        }

        int packerOf(int k) {
            if (!has(k) || packerCount <= 0) {
                return STORED;
            }
            return packers[k % packerCount];
        }

        int filterOf(int k, int which) {
            int group = groupOf(k);
            if (group <= filterCount) {
                return which == 0 && group > 0 ? group - 1 : NO;
            }
            int pair = group - 1 - filterCount;
            int others = filterCount - 1;
            if (others < 1) {
                return NO;
            }
            int first = pair / others;
            if (which == 0) {
                return first;
            }
            // The second skips the first's own number.
            int second = pair % others;
            return second < first ? second : second + 1;
        }

        int filtersIn(int k) {
            if (filterOf(k, 0) == NO) {
                return 0;
            }
            return filterOf(k, 1) == NO ? 1 : 2;
        }

        int kindOf(int number) {
            return number >= 0 && number < kinds.length ? kinds[number] : 0;
        }

        int valueOf(int number) {
            return number >= 0 && number < values.length ? values[number] : 0;
        }

        int stepsOf(int k) {
            int steps = valueIn(PACKER_STEPS, packerOf(k));
            for (int which = 0; which < filtersIn(k); which++) {
                steps += valueIn(FILTER_STEPS, kindOf(filterOf(k, which)));
            }
            return steps;
        }

        int memoryOf(int k) {
            int most = valueIn(PACKER_MEMORY, packerOf(k));
            for (int which = 0; which < filtersIn(k); which++) {
                most = Math.max(most, valueIn(FILTER_MEMORY, kindOf(filterOf(k, which))));
            }
            return most;
        }

        private static int valueIn(int[] table, int kind) {
            return kind >= 0 && kind < table.length ? table[kind] : 0;
        }
    }

    /** The four kinds of FILTERS, there and back. */
    private static final class Filters {
        private final int[] order = new int[BYTES];

        static boolean isKind(int kind) {
            return kind >= DELTA && kind <= XOR;
        }

        static boolean takes(int kind, int v) {
            switch (kind) {
                case DELTA:
                    return v >= 1 && v <= 8;
                case FRONT:
                    return v == 0;
                case PLANES:
                    return v >= 2 && v <= 8;
                case XOR:
                    return v >= 1 && v <= 255;
                default:
                    return false;
            }
        }

        void make(int kind, int v, Row from, Row to) {
            to.become(from);
            switch (kind) {
                case DELTA:
                    for (int i = Math.max(v, 0); i < from.count(); i++) {
                        to.set(i, from.get(i) - from.get(i - v));
                    }
                    break;
                case FRONT:
                    startOrder();
                    for (int i = 0; i < from.count(); i++) {
                        to.set(i, bringToFront(from.get(i)));
                    }
                    break;
                case PLANES:
                    gatherPlanes(v, from, to);
                    break;
                default:
                    mask(v, from, to);
                    break;
            }
        }

        void undo(int kind, int v, Row from, Row to) {
            to.become(from);
            switch (kind) {
                case DELTA:
                    for (int i = Math.max(v, 0); i < from.count(); i++) {
                        to.set(i, from.get(i) + to.get(i - v));
                    }
                    break;
                case FRONT:
                    startOrder();
                    for (int i = 0; i < from.count(); i++) {
                        to.set(i, takeToFront(from.get(i)));
                    }
                    break;
                case PLANES:
                    spreadPlanes(v, from, to);
                    break;
                default:
                    mask(v, from, to);
                    break;
            }
        }

        private static void mask(int v, Row from, Row to) {
            for (int i = 0; i < from.count(); i++) {
                to.set(i, from.get(i) ^ v);
            }
        }

        private static void gatherPlanes(int v, Row from, Row to) {
            int stride = Math.max(v, 1);
            int at = 0;
            for (int plane = 0; plane < stride; plane++) {
                for (int i = plane; i < from.count(); i += stride) {
                    to.set(at, from.get(i));
                    at++;
                }
            }
        }

        private static void spreadPlanes(int v, Row from, Row to) {
            int stride = Math.max(v, 1);
            int at = 0;
            for (int plane = 0; plane < stride; plane++) {
                for (int i = plane; i < from.count(); i += stride) {
                    to.set(i, from.get(at));
                    at++;
                }
            }
        }

        private void startOrder() {
            for (int b = 0; b < BYTES; b++) {
                order[b] = b;
            }
        }

        private int bringToFront(int b) {
            int carried = b;
            for (int at = 0; at < BYTES; at++) {
                int here = order[at];
                order[at] = carried;
                if (here == b) {
                    return at;
                }
                carried = here;
            }
            return 0;
        }

        private int takeToFront(int at) {
            int from = at & 255;
            int b = order[from];
            System.arraycopy(order, 0, order, 1, from);
            order[0] = b;
            return b;
        }
    }

    /** Lays bits behind one another, from the highest of a byte on. */
    private static final class BitWriter {
        private int held = 0;
        private int used = 0;

        void put(int bits, int width, Row to) {
            for (int i = width - 1; i >= 0; i--) {
                held = (held << 1) | ((bits >> i) & 1);
                used++;
                if (used == 8) {
                    to.push(held);
                    held = 0;
                    used = 0;
                }
            }
        }

        void finish(Row to) {
            if (used > 0) {
                to.push(held << (8 - used));
            }
            held = 0;
            used = 0;
        }
    }

    /** The LENGTHS that trees of bytes give, joined by how often each byte stands there. */
    private static final class Tree {
        // Leaves first, by rising WEIGHT, then the joined trees as they were joined.
        private final int[] weights = new int[2 * BYTES];
        private final int[] parents = new int[2 * BYTES];
        private final int[] depths = new int[2 * BYTES];
        private final int[] leaves = new int[BYTES];
        private int leafCount = 0;
        private int nextLeaf = 0;
        private int nextJoined = 0;

        void grow(int[] often, PrefixCode code) {
            code.begin();
            sortLeaves(often);
            if (leafCount == 1) {
                code.give(leaves[0], 1);
            } else if (leafCount > 1) {
                join();
                measure(code);
            }
        }

        private void sortLeaves(int[] often) {
            leafCount = 0;
            for (int b = 0; b < BYTES && b < often.length; b++) {
                if (often[b] <= 0) {
                    continue;
                }
                int at = leafCount;
                // Only past heavier ones, so that bytes of like WEIGHT stay rising.
                for (; at > 0 && weights[at - 1] > often[b]; at--) {
                    weights[at] = weights[at - 1];
                    leaves[at] = leaves[at - 1];
                }
                weights[at] = often[b];
                leaves[at] = b;
                leafCount++;
            }
        }

        // Joined trees come by rising WEIGHT, so the least tree is always the first of one of two lines.
        private void join() {
            nextLeaf = 0;
            nextJoined = leafCount;
            for (int made = leafCount; made < 2 * leafCount - 1 && made < weights.length; made++) {
                int one = takeLeast(made);
                int two = takeLeast(made);
                weights[made] = weights[one] + weights[two];
                parents[one] = made;
                parents[two] = made;
            }
        }

        private int takeLeast(int made) {
            boolean leafLeft = nextLeaf < leafCount;
            boolean joinedLeft = nextJoined < made && made <= weights.length;
            // Of like WEIGHTS bytes came before all that were joined.
            if (leafLeft && (!joinedLeft || weights[nextLeaf] <= weights[nextJoined])) {
                nextLeaf++;
                return nextLeaf - 1;
            }
            if (!joinedLeft) {
                return 0;
            }
            nextJoined++;
            return nextJoined - 1;
        }

        private void measure(PrefixCode code) {
            int root = Math.min(2 * leafCount, depths.length) - 2;
            depths[root] = 0;
            for (int tree = root - 1; tree >= 0; tree--) {
                // A tree is always joined to one that was made later, whose depth is known here.
                depths[tree] = depths[Math.min(Math.max(parents[tree], 0), root)] + 1;
                if (tree < leafCount) {
                    code.give(leaves[tree], depths[tree]);
                }
            }
        }
    }

    /** The codes of PREFIX, as LENGTHS give them. */
    private static final class PrefixCode {
        private final int[] lengths = new int[BYTES];
        private final int[] codes = new int[BYTES];
        // The bytes that have a LENGTH, by rising LENGTH, of one LENGTH rising.
        private final int[] ranked = new int[BYTES];
        private final int[] ofLength = new int[MOST_LENGTH + 1];
        private final int[] starts = new int[MOST_LENGTH + 2];
        private int known = 0;

        void begin() {
            Arrays.fill(lengths, 0);
            Arrays.fill(ofLength, 0);
            known = 0;
        }

        void give(int b, int length) {
            if (b < 0 || b >= BYTES || length < 1 || length > MOST_LENGTH || lengths[b] > 0) {
                return;
            }
            lengths[b] = length;
            ofLength[length]++;
            known++;
        }

        int lengthOf(int b) {
            return lengths[b & 255];
        }

        int codeOf(int b) {
            return codes[b & 255];
        }

        /** Whether the LENGTHS leave no code unused and tell none too many. */
        boolean isWhole() {
            // One byte alone has a code of one bit, although the other one is unused.
            if (known == 1) {
                return ofLength[1] == 1;
            }
            int sum = 0;
            for (int length = 1; length <= MOST_LENGTH; length++) {
                sum += ofLength[length] << (MOST_LENGTH - length);
            }
            return sum == 1 << MOST_LENGTH;
        }

        void assign() {
            rank();
            int next = 0;
            int last = 0;
            for (int i = 0; i < known && i < BYTES; i++) {
                int b = ranked[i] & 255;
                next <<= Math.max(0, lengths[b] - last);
                codes[b] = next;
                next++;
                last = lengths[b];
            }
        }

        private void rank() {
            starts[0] = 0;
            for (int length = 0; length <= MOST_LENGTH; length++) {
                starts[length + 1] = starts[length] + ofLength[length];
            }
            for (int b = 0; b < BYTES; b++) {
                int length = lengths[b] & MOST_LENGTH;
                if (length > 0 && starts[length] < BYTES) {
                    ranked[starts[length]] = b;
                    starts[length]++;
                }
            }
        }

        int readFrom(Reader in) {
            int code = 0;
            int first = 0;
            int before = 0;
            for (int length = 1; length <= MOST_LENGTH && in.isFine(); length++) {
                code = (code << 1) | in.bit();
                int within = code - first;
                if (within < ofLength[length]) {
                    return ranked[(before + within) & 255];
                }
                // One byte alone leaves the code 1 unused; of more bytes every row of bits tells one.
                if (known == 1) {
                    in.blame(FAULT_ITEM);
                }
                before += ofLength[length];
                first = (first + ofLength[length]) << 1;
            }
            return 0;
        }
    }

    /** What each PACKER makes of a row, laid behind what another one holds. */
    private static final class Packers {
        private final int[] often = new int[BYTES];
        private final int[] ranks = new int[BYTES];
        private final int[] latest = new int[BYTES];
        private final int[] earlier = new int[TEXT_ROOM];
        private final BitWriter bits = new BitWriter();
        private final Tree tree = new Tree();
        private final PrefixCode code = new PrefixCode();
        private int matchLength = 0;
        private int matchBack = 0;

        void write(int kind, Row from, Row to) {
            if (from.count() == 0) {
                return;
            }
            switch (kind) {
                case RUNS:
                    writeRuns(from, to);
                    break;
                case BITS:
                    writeBits(from, to);
                    break;
                case PREFIX:
                    writePrefix(from, to);
                    break;
                case MATCHES:
                    writeMatches(from, to);
                    break;
                default:
                    copy(from, 0, from.count(), to);
                    break;
            }
        }

        private static void copy(Row from, int start, int end, Row to) {
            for (int i = start; i < end; i++) {
                to.push(from.get(i));
            }
        }

        private static void writePlain(Row from, int start, int end, Row to) {
            to.push(end - start - 1);
            copy(from, start, end, to);
        }

        private static void writeRuns(Row from, Row to) {
            int n = from.count();
            int at = 0;
            // Each item takes a byte or more, so n of them are enough.
            for (int item = 0; item < n && at < n; item++) {
                int run = runAt(from, at, MOST_RUN);
                int end = at + run;
                if (run >= LEAST_RUN) {
                    to.push(run + RUN_LESS);
                    to.push(from.get(at));
                } else {
                    int most = Math.min(n, at + MOST_PLAIN);
                    while (end < most && runAt(from, end, 3) < 3) {
                        end++;
                    }
                    writePlain(from, at, end, to);
                }
                at = end;
            }
        }

        private static int runAt(Row from, int at, int most) {
            int end = Math.min(from.count(), at + most);
            int next = at + 1;
            while (next < end && from.get(next) == from.get(at)) {
                next++;
            }
            return next - at;
        }

        private void writeBits(Row from, Row to) {
            int unlike = from.countInto(often);
            to.push(unlike - 1);
            int rank = 0;
            for (int b = 0; b < BYTES; b++) {
                if (often[b] > 0) {
                    to.push(b);
                    ranks[b] = rank;
                    rank++;
                }
            }
            int width = widthOf(unlike - 1);
            for (int i = 0; i < from.count(); i++) {
                bits.put(ranks[from.get(i) & 255], width, to);
            }
            bits.finish(to);
        }

        static int widthOf(int number) {
            int width = 0;
            while (width < 8 && (number >> width) > 0) {
                width++;
            }
            return width;
        }

        private void writePrefix(Row from, Row to) {
            to.push(from.countInto(often) - 1);
            tree.grow(often, code);
            code.assign();
            for (int b = 0; b < BYTES; b++) {
                if (often[b] > 0) {
                    to.push(b);
                    to.push(code.lengthOf(b));
                }
            }
            for (int i = 0; i < from.count(); i++) {
                int b = from.get(i);
                bits.put(code.codeOf(b), code.lengthOf(b), to);
            }
            bits.finish(to);
        }

        private void writeMatches(Row from, Row to) {
            linkLikeBytes(from);
            int n = from.count();
            int at = 0;
            // Each item takes a byte or more, so n of them are enough.
            for (int item = 0; item < n && at < n; item++) {
                findMatch(from, at);
                int end = at + Math.max(matchLength, 1);
                if (matchLength >= LEAST_MATCH) {
                    to.push(matchLength + MATCH_LESS);
                    to.push(matchBack);
                } else {
                    end = endOfPlain(from, at);
                    writePlain(from, at, end, to);
                }
                at = end;
            }
        }

        private int endOfPlain(Row from, int at) {
            int most = Math.min(from.count(), at + MOST_PLAIN);
            int end = at + 1;
            while (end < most) {
                findMatch(from, end);
                if (matchLength >= LEAST_MATCH) {
                    break;
                }
                end++;
            }
            return end;
        }

        // A match begins with its own first byte, so only places with that byte need a look.
        private void linkLikeBytes(Row from) {
            Arrays.fill(latest, -1);
            for (int i = 0; i < from.count() && i < earlier.length; i++) {
                int b = from.get(i) & 255;
                earlier[i] = latest[b];
                latest[b] = i;
            }
        }

        private int before(int i) {
            return i >= 0 && i < earlier.length ? earlier[i] : -1;
        }

        // Nearer places come first, so a farther one must match longer to be taken.
        private void findMatch(Row from, int at) {
            int most = Math.min(MOST_MATCH, from.count() - at);
            matchLength = 0;
            matchBack = 0;
            int place = before(at);
            for (int turn = 0; turn < FARTHEST && matchLength < most; turn++) {
                if (place < 0 || at - place > FARTHEST) {
                    break;
                }
                int length = 1;
                while (length < most && from.get(place + length) == from.get(at + length)) {
                    length++;
                }
                if (length >= LEAST_MATCH && length > matchLength) {
                    matchLength = length;
                    matchBack = at - place;
                }
                place = before(place);
            }
        }
    }

    /** Goes along OUT byte by byte and bit by bit; behind a FAULT it reads 0s and keeps that first one. */
    private static final class Reader {
        private Row from = new Row(0);
        private int at = 0;
        private int held = 0;
        private int left = 0;
        private int fault = 0;
        private int faultPlace = 0;

        void begin(Row row) {
            from = row;
            at = 0;
            held = 0;
            left = 0;
            fault = 0;
            faultPlace = 0;
        }

        boolean isFine() {
            return fault == 0;
        }

        int fault() {
            return fault;
        }

        int faultPlace() {
            return faultPlace;
        }

        int next() {
            if (fault != 0) {
                return 0;
            }
            if (!from.has(at)) {
                blameAt(FAULT_ENDS, from.count());
                return 0;
            }
            at++;
            return from.get(at - 1);
        }

        int bit() {
            if (left == 0) {
                held = next();
                left = 8;
            }
            left--;
            return (held >> left) & 1;
        }

        /** A FAULT of the byte that was read last. */
        void blame(int what) {
            blameAt(what, at - 1);
        }

        void endBits() {
            if ((held & ((1 << left) - 1)) != 0) {
                blame(FAULT_ITEM);
            }
        }

        void endBytes() {
            if (from.has(at)) {
                blameAt(FAULT_GOES_ON, at);
            }
        }

        private void blameAt(int what, int where) {
            if (fault == 0) {
                fault = what;
                faultPlace = where;
            }
        }
    }

    /** Reads OUT as PACKED by any FILTERS and PACKER. */
    private static final class Unpacker {
        private final Reader in = new Reader();
        private final int[] kinds = new int[MOST_IN_CHAIN];
        private final int[] values = new int[MOST_IN_CHAIN];
        private final int[] unlike = new int[BYTES];
        private final PrefixCode code = new PrefixCode();
        private final Filters filters = new Filters();
        private final Row made = new Row(TEXT_ROOM);
        private final Row undone = new Row(TEXT_ROOM);
        private int filterCount = 0;
        private int packerKind = STORED;
        private int count = 0;

        int faultPlace() {
            return in.faultPlace();
        }

        void readHead(Row packed) {
            in.begin(packed);
            made.empty();
            readFilters();
            packerKind = in.next();
            if (packerKind > MATCHES) {
                in.blame(FAULT_NUMBER);
            }
            int high = in.next();
            count = (high << 8) | in.next();
            if (count > TEXT_ROOM) {
                in.blame(FAULT_NUMBER);
            }
        }

        private void readFilters() {
            filterCount = in.next();
            if (filterCount > MOST_IN_CHAIN) {
                in.blame(FAULT_NUMBER);
            }
            for (int i = 0; i < filterCount && i < MOST_IN_CHAIN; i++) {
                kinds[i] = in.next();
                if (!Filters.isKind(kinds[i])) {
                    in.blame(FAULT_NUMBER);
                }
                values[i] = in.next();
                if (!Filters.takes(kinds[i], values[i])) {
                    in.blame(FAULT_NUMBER);
                }
            }
        }

        void readBody() {
            if (!in.isFine() || count == 0) {
                return;
            }
            switch (packerKind) {
                case RUNS:
                case MATCHES:
                    readItems();
                    break;
                case BITS:
                    readBits();
                    break;
                case PREFIX:
                    readPrefix();
                    break;
                default:
                    copy(count);
                    break;
            }
        }

        /** The row becomes what was PACKED, or stays if there is a FAULT: which one, or 0. */
        int finish(Row row) {
            in.endBytes();
            if (in.isFine()) {
                undoFilters();
                row.become(made);
            }
            return in.fault();
        }

        private void copy(int many) {
            for (int i = 0; i < many && in.isFine(); i++) {
                made.push(in.next());
            }
        }

        private void readItems() {
            int less = packerKind == RUNS ? RUN_LESS : MATCH_LESS;
            // Each item makes a byte or more, so that many items are enough.
            for (int item = 0; item < count && made.count() < count && in.isFine(); item++) {
                int c = in.next();
                int many = c < PLAIN_ITEMS ? c + 1 : c - less;
                if (many > count - made.count()) {
                    in.blame(FAULT_ITEM);
                }
                if (c < PLAIN_ITEMS) {
                    copy(many);
                } else if (packerKind == RUNS) {
                    repeat(many);
                } else {
                    copyBack(many);
                }
            }
        }

        private void repeat(int many) {
            int b = in.next();
            for (int i = 0; i < many && in.isFine(); i++) {
                made.push(b);
            }
        }

        private void copyBack(int many) {
            int back = in.next();
            if (back == 0 || back > made.count()) {
                in.blame(FAULT_ITEM);
            }
            for (int i = 0; i < many && in.isFine(); i++) {
                made.push(made.get(made.count() - back));
            }
        }

        private void readBits() {
            int many = in.next() + 1;
            int last = -1;
            for (int i = 0; i < many && i < BYTES && in.isFine(); i++) {
                last = readRising(last);
                unlike[i] = last;
            }
            int width = Packers.widthOf(many - 1);
            for (int i = 0; i < count && in.isFine(); i++) {
                int number = 0;
                for (int bit = 0; bit < width; bit++) {
                    number = (number << 1) | in.bit();
                }
                if (number >= many) {
                    in.blame(FAULT_ITEM);
                }
                made.push(unlike[number & 255]);
            }
            in.endBits();
        }

        private int readRising(int last) {
            int b = in.next();
            if (b <= last) {
                in.blame(FAULT_ITEM);
            }
            return b;
        }

        private void readPrefix() {
            readLengths();
            for (int i = 0; i < count && in.isFine(); i++) {
                made.push(code.readFrom(in));
            }
            in.endBits();
        }

        private void readLengths() {
            code.begin();
            int many = in.next() + 1;
            int last = -1;
            for (int i = 0; i < many && in.isFine(); i++) {
                last = readRising(last);
                int length = in.next();
                if (length < 1 || length > MOST_LENGTH) {
                    in.blame(FAULT_ITEM);
                }
                code.give(last, length);
            }
            if (!code.isWhole()) {
                in.blame(FAULT_ITEM);
            }
            code.assign();
        }

        private void undoFilters() {
            for (int i = Math.min(filterCount, MOST_IN_CHAIN) - 1; i >= 0; i--) {
                filters.undo(kinds[i], values[i], made, undone);
                made.become(undone);
            }
        }
    }
}
