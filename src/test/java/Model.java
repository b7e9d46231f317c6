import java.util.ArrayList;
import java.util.Arrays;
import java.util.HashMap;
import java.util.List;
import java.util.Map;
import java.util.TreeMap;
import java.util.TreeSet;

/** The document once more, in the plainest words of the Java library, to compare long runs of calls with. */
final class Model {
    static final int BAD = -1, FULL = -2, NO = -3;

    /** What is met first along OUT. */
    private static final class Fault extends Exception {
        private static final long serialVersionUID = 1;
        final int kind;
        final int place;

        Fault(int kind, int place) {
            this.kind = kind;
            this.place = place;
        }
    }

    private record Chain(List<Integer> filters, int packer) { }

    private List<Integer> text = new ArrayList<>();
    private List<Integer> out = new ArrayList<>();
    private final List<int[]> filters = new ArrayList<>();
    private final List<Integer> packers = new ArrayList<>(List.of(0));
    private int[] choice = null;
    private final Map<Integer, Integer> lessons = new HashMap<>();
    private int faultPlace = NO;

    // ---- the text

    int clear() {
        int n = text.size();
        text.clear();
        return n;
    }

    int add(int b) {
        if (b < 0 || b > 255) {
            return BAD;
        }
        if (text.size() == 300) {
            return FULL;
        }
        text.add(b);
        return text.size();
    }

    int fill(int n, int seed, int how) {
        if (n < 1 || n > 300 || how < 0 || how > 3) {
            return BAD;
        }
        if (text.size() + n > 300) {
            return FULL;
        }
        List<Integer> more = new ArrayList<>();
        long x = seed;
        while (more.size() < n) {
            x = (x * 1103515245L + 12345L) & 0xffffffffL;
            int z = (int) (x >> 16);
            switch (how) {
                case 0 -> more.add(z % 256);
                case 1 -> more.add(z % 4);
                case 2 -> {
                    for (int i = 0; i < 1 + z / 8 % 8; i++) {
                        more.add(z % 8);
                    }
                }
                default -> more.add(((more.isEmpty() ? 0 : more.get(more.size() - 1)) + z % 4) % 256);
            }
        }
        text.addAll(more.subList(0, n));
        return text.size();
    }

    int size(int which) {
        return which == 0 ? text.size() : which == 1 ? out.size() : BAD;
    }

    int octet(int which, int i) {
        if (which != 0 && which != 1) {
            return BAD;
        }
        List<Integer> row = which == 0 ? text : out;
        return i < 0 || i >= row.size() ? BAD : row.get(i);
    }

    // ---- chains

    private static boolean goodFilter(int kind, int v) {
        return kind == 1 && v >= 1 && v <= 8 || kind == 2 && v == 0 || kind == 3 && v >= 2 && v <= 8
            || kind == 4 && v >= 1 && v <= 255;
    }

    private void gone() {
        choice = null;
        lessons.clear();
    }

    int filter(int kind, int v) {
        if (!goodFilter(kind, v)) {
            return BAD;
        }
        if (filters.size() == 4) {
            return FULL;
        }
        filters.add(new int[] {kind, v});
        gone();
        return filters.size() - 1;
    }

    int packer(int kind) {
        if (kind < 1 || kind > 4) {
            return BAD;
        }
        if (packers.contains(kind)) {
            return NO;
        }
        packers.add(kind);
        gone();
        return packers.size() - 1;
    }

    int forget() {
        int n = chains();
        filters.clear();
        packers.clear();
        packers.add(0);
        gone();
        return n;
    }

    private List<Chain> all() {
        List<List<Integer>> groups = new ArrayList<>();
        groups.add(List.of());
        for (int i = 0; i < filters.size(); i++) {
            groups.add(List.of(i));
        }
        for (int i = 0; i < filters.size(); i++) {
            for (int j = 0; j < filters.size(); j++) {
                if (i != j) {
                    groups.add(List.of(i, j));
                }
            }
        }
        List<Chain> chains = new ArrayList<>();
        for (List<Integer> group : groups) {
            for (int packer : packers) {
                chains.add(new Chain(group, packer));
            }
        }
        return chains;
    }

    int chains() {
        return all().size();
    }

    private int steps(Chain c) {
        int sum = new int[] {1, 2, 2, 4, 64}[c.packer];
        for (int f : c.filters) {
            sum += filters.get(f)[0] == 2 ? 16 : 1;
        }
        return sum;
    }

    private int memory(Chain c) {
        int most = new int[] {0, 0, 256, 1024, 512}[c.packer];
        for (int f : c.filters) {
            most = Math.max(most, filters.get(f)[0] == 2 ? 256 : 0);
        }
        return most;
    }

    int chain(int k, int what) {
        if (k < 0 || k >= chains() || what < 0 || what > 5) {
            return BAD;
        }
        Chain c = all().get(k);
        return switch (what) {
            case 0, 1 -> c.filters.size() > what ? c.filters.get(what) : NO;
            case 2 -> c.packer;
            case 3 -> steps(c);
            case 4 -> memory(c);
            default -> packed(c).size();
        };
    }

    // ---- choosing

    private Map<Integer, Integer> often(List<Integer> row) {
        Map<Integer, Integer> counts = new TreeMap<>();
        for (int b : row) {
            counts.merge(b, 1, Integer::sum);
        }
        return counts;
    }

    private boolean flat() {
        int n = text.size();
        return n >= 64 && often(text).values().stream().noneMatch(count -> count > 2 + n / 32);
    }

    int choose(int steps, int memory) {
        if (steps < 0 || memory < 0) {
            return BAD;
        }
        List<Chain> chains = all();
        choice = new int[] {0, 0, 0, packed(chains.get(0)).size(), 0, flat() ? 1 : 0};
        if (choice[5] == 1) {
            return 0;
        }
        int bestBytes = Integer.MAX_VALUE;
        int bestSteps = Integer.MAX_VALUE;
        for (int k = 0; k < chains.size(); k++) {
            Chain c = chains.get(k);
            if (memory(c) > memory) {
                choice[4]++;
                continue;
            }
            int takes = steps(c) * text.size();
            if (steps - choice[1] < takes) {
                break;
            }
            choice[0]++;
            choice[1] += takes;
            int bytes = packed(c).size();
            if (bytes < bestBytes || bytes == bestBytes && steps(c) < bestSteps) {
                bestBytes = bytes;
                bestSteps = steps(c);
                choice[2] = k;
                choice[3] = bytes;
            }
        }
        return choice[2];
    }

    int told(int what) {
        return what < 0 || what > 5 ? BAD : choice == null ? NO : choice[what];
    }

    int learn() {
        if (choice == null) {
            return NO;
        }
        lessons.put(feature(), choice[2]);
        return feature();
    }

    int feature() {
        int unlike = often(text).size();
        int n = text.size();
        int a = unlike <= 2 ? 0 : unlike <= 16 ? 1 : unlike <= 64 ? 2 : 3;
        int like = 0;
        int near = 0;
        for (int i = 1; i < n; i++) {
            int d = text.get(i) - text.get(i - 1);
            like += d == 0 ? 1 : 0;
            near += d == 1 || d == 2 || d == -1 || d == -2 ? 1 : 0;
        }
        return n == 0 ? 0 : 16 * a + 4 * Math.min(3, 4 * like / n) + Math.min(3, 4 * near / n);
    }

    int learned(int feature) {
        return feature < 0 || feature > 63 ? BAD : lessons.getOrDefault(feature, NO);
    }

    // ---- packed

    private List<Integer> packed(Chain c) {
        List<Integer> row = new ArrayList<>(text);
        List<Integer> all = new ArrayList<>();
        all.add(c.filters.size());
        for (int f : c.filters) {
            int kind = filters.get(f)[0];
            int v = filters.get(f)[1];
            all.add(kind);
            all.add(v);
            row = filtered(kind, v, row);
        }
        all.add(c.packer);
        all.add(text.size() / 256);
        all.add(text.size() % 256);
        if (!row.isEmpty()) {
            all.addAll(switch (c.packer) {
                case 1 -> runs(row);
                case 2 -> bits(row);
                case 3 -> prefix(row);
                case 4 -> matches(row);
                default -> row;
            });
        }
        return all;
    }

    private static List<Integer> filtered(int kind, int v, List<Integer> row) {
        List<Integer> made = new ArrayList<>();
        List<Integer> list = new ArrayList<>();
        for (int b = 0; b < 256; b++) {
            list.add(b);
        }
        for (int i = 0; i < row.size(); i++) {
            int b = row.get(i);
            switch (kind) {
                case 1 -> made.add(i < v ? b : Math.floorMod(b - row.get(i - v), 256));
                case 2 -> {
                    made.add(list.indexOf(b));
                    list.remove(Integer.valueOf(b));
                    list.add(0, b);
                }
                case 4 -> made.add(b ^ v);
                default -> { }
            }
        }
        for (int plane = 0; kind == 3 && plane < v; plane++) {
            for (int i = 0; i < row.size(); i++) {
                if (i % v == plane) {
                    made.add(row.get(i));
                }
            }
        }
        return made;
    }

    private static boolean three(List<Integer> row, int i) {
        return i + 2 < row.size() && row.get(i).equals(row.get(i + 1)) && row.get(i).equals(row.get(i + 2));
    }

    private static List<Integer> runs(List<Integer> row) {
        List<Integer> made = new ArrayList<>();
        List<Integer> plain = new ArrayList<>();
        int i = 0;
        while (i < row.size()) {
            int run = 1;
            while (run < 129 && i + run < row.size() && row.get(i + run).equals(row.get(i))) {
                run++;
            }
            if (plain.isEmpty() && run >= 2) {
                made.add(126 + run);
                made.add(row.get(i));
                i += run;
                continue;
            }
            plain.add(row.get(i));
            i++;
            if (plain.size() == 128 || i == row.size() || three(row, i)) {
                made.add(plain.size() - 1);
                made.addAll(plain);
                plain.clear();
            }
        }
        return made;
    }

    private static List<Integer> bytesOf(StringBuilder bits) {
        List<Integer> made = new ArrayList<>();
        while (bits.length() % 8 != 0) {
            bits.append('0');
        }
        for (int i = 0; i < bits.length(); i += 8) {
            made.add(Integer.parseInt(bits.substring(i, i + 8), 2));
        }
        return made;
    }

    private static String padded(int number, int width) {
        String digits = width == 0 ? "" : Integer.toBinaryString(number);
        return "0".repeat(width - digits.length()) + digits;
    }

    private static int width(int k) {
        return k == 1 ? 0 : Integer.toBinaryString(k - 1).length();
    }

    private List<Integer> bits(List<Integer> row) {
        List<Integer> unlike = new ArrayList<>(new TreeSet<>(row));
        List<Integer> made = new ArrayList<>();
        made.add(unlike.size() - 1);
        made.addAll(unlike);
        StringBuilder bits = new StringBuilder();
        for (int b : row) {
            bits.append(padded(unlike.indexOf(b), width(unlike.size())));
        }
        made.addAll(bytesOf(bits));
        return made;
    }

    private static final class Tree {
        int weight;
        int born;
        final List<Integer> bytes = new ArrayList<>();
    }

    private static Tree least(List<Tree> trees) {
        Tree best = trees.get(0);
        for (Tree t : trees) {
            if (t.weight < best.weight || t.weight == best.weight && t.born < best.born) {
                best = t;
            }
        }
        trees.remove(best);
        return best;
    }

    private Map<Integer, Integer> lengths(List<Integer> row) {
        List<Tree> trees = new ArrayList<>();
        Map<Integer, Integer> lengths = new TreeMap<>();
        int born = 0;
        for (Map.Entry<Integer, Integer> e : often(row).entrySet()) {
            Tree t = new Tree();
            t.weight = e.getValue();
            t.born = born++;
            t.bytes.add(e.getKey());
            trees.add(t);
            lengths.put(e.getKey(), 0);
        }
        if (trees.size() == 1) {
            lengths.replaceAll((b, length) -> 1);
        }
        while (trees.size() > 1) {
            Tree one = least(trees);
            Tree two = least(trees);
            one.bytes.addAll(two.bytes);
            one.weight += two.weight;
            one.born = born++;
            for (int b : one.bytes) {
                lengths.merge(b, 1, Integer::sum);
            }
            trees.add(one);
        }
        return lengths;
    }

    private static Map<Integer, String> codes(Map<Integer, Integer> lengths) {
        List<Integer> order = new ArrayList<>(lengths.keySet());
        order.sort((a, b) -> lengths.get(a).equals(lengths.get(b)) ? a - b : lengths.get(a) - lengths.get(b));
        Map<Integer, String> codes = new HashMap<>();
        String last = null;
        for (int b : order) {
            int length = lengths.get(b);
            if (last == null) {
                last = "0".repeat(length);
            } else {
                String next = padded(Integer.parseInt(last, 2) + 1, last.length());
                last = next + "0".repeat(length - next.length());
            }
            codes.put(b, last);
        }
        return codes;
    }

    private List<Integer> prefix(List<Integer> row) {
        Map<Integer, Integer> lengths = lengths(row);
        Map<Integer, String> codes = codes(lengths);
        List<Integer> made = new ArrayList<>();
        made.add(lengths.size() - 1);
        lengths.forEach((b, length) -> {
            made.add(b);
            made.add(length);
        });
        StringBuilder bits = new StringBuilder();
        for (int b : row) {
            bits.append(codes.get(b));
        }
        made.addAll(bytesOf(bits));
        return made;
    }

    private static int[] match(List<Integer> row, int i) {
        int[] best = {0, 0};
        for (int d = 1; d <= 255 && d <= i; d++) {
            int length = 0;
            while (length < 130 && i + length < row.size() && row.get(i + length).equals(row.get(i + length - d))) {
                length++;
            }
            if (length >= 3 && length > best[0]) {
                best = new int[] {length, d};
            }
        }
        return best;
    }

    private static List<Integer> matches(List<Integer> row) {
        List<Integer> made = new ArrayList<>();
        List<Integer> plain = new ArrayList<>();
        int i = 0;
        while (i < row.size()) {
            int[] match = match(row, i);
            if (!plain.isEmpty() && (match[0] > 0 || plain.size() == 128)) {
                made.add(plain.size() - 1);
                made.addAll(plain);
                plain.clear();
            }
            if (match[0] > 0) {
                made.add(125 + match[0]);
                made.add(match[1]);
                i += match[0];
            } else {
                plain.add(row.get(i));
                i++;
            }
        }
        if (!plain.isEmpty()) {
            made.add(plain.size() - 1);
            made.addAll(plain);
        }
        return made;
    }

    int pack(int k) {
        if (k < 0 || k >= chains()) {
            return BAD;
        }
        out = packed(all().get(k));
        return out.size();
    }

    int alter(int i, int b) {
        return i < 0 || i >= out.size() || b < 0 || b > 255 ? BAD : out.set(i, b);
    }

    int cut(int n) {
        if (n < 0 || n > out.size()) {
            return BAD;
        }
        int gone = out.size() - n;
        out = new ArrayList<>(out.subList(0, n));
        return gone;
    }

    int unpack() {
        try {
            text = read();
            faultPlace = NO;
            return text.size();
        } catch (Fault fault) {
            faultPlace = fault.place;
            return -10 - fault.kind;
        }
    }

    int place() {
        return faultPlace;
    }

    private int at;

    private int next() throws Fault {
        if (at >= out.size()) {
            throw new Fault(2, out.size());
        }
        return out.get(at++);
    }

    private void must(boolean holds, int kind) throws Fault {
        if (!holds) {
            throw new Fault(kind, at - 1);
        }
    }

    private List<Integer> read() throws Fault {
        at = 0;
        int many = next();
        must(many <= 2, 1);
        int[][] by = new int[many][2];
        for (int[] filter : by) {
            filter[0] = next();
            must(filter[0] >= 1 && filter[0] <= 4, 1);
            filter[1] = next();
            must(goodFilter(filter[0], filter[1]), 1);
        }
        int packer = next();
        must(packer <= 4, 1);
        int n = next() * 256;
        n += next();
        must(n <= 300, 1);
        List<Integer> row = new ArrayList<>();
        if (n > 0) {
            switch (packer) {
                case 0 -> plain(row, n);
                case 1, 4 -> items(row, n, packer);
                case 2 -> readBits(row, n);
                default -> readPrefix(row, n);
            }
        }
        if (at < out.size()) {
            throw new Fault(3, at);
        }
        for (int i = many - 1; i >= 0; i--) {
            row = restored(by[i][0], by[i][1], row);
        }
        return row;
    }

    private void plain(List<Integer> row, int n) throws Fault {
        for (int i = 0; i < n; i++) {
            row.add(next());
        }
    }

    private void items(List<Integer> row, int n, int packer) throws Fault {
        while (row.size() < n) {
            int c = next();
            int many = c < 128 ? c + 1 : packer == 1 ? c - 126 : c - 125;
            must(row.size() + many <= n, 4);
            if (c < 128) {
                plain(row, many);
            } else if (packer == 1) {
                int b = next();
                for (int i = 0; i < many; i++) {
                    row.add(b);
                }
            } else {
                int d = next();
                must(d > 0 && d <= row.size(), 4);
                for (int i = 0; i < many; i++) {
                    row.add(row.get(row.size() - d));
                }
            }
        }
    }

    /** Bits of OUT from byte at on, up to so many; at goes behind the byte of the last one. */
    private String bits(int from, int offset, int many) throws Fault {
        StringBuilder bits = new StringBuilder();
        for (int i = offset; i < offset + many; i++) {
            at = from + i / 8;
            String digits = padded(next(), 8);
            bits.append(digits.charAt(i % 8));
        }
        return bits.toString();
    }

    private void restZero(int from, int offset) throws Fault {
        if (offset % 8 != 0) {
            String digits = padded(out.get(from + offset / 8), 8);
            must(!digits.substring(offset % 8).contains("1"), 4);
        }
    }

    private void readBits(List<Integer> row, int n) throws Fault {
        int k = next() + 1;
        List<Integer> unlike = new ArrayList<>();
        for (int i = 0; i < k; i++) {
            unlike.add(next());
            must(i == 0 || unlike.get(i) > unlike.get(i - 1), 4);
        }
        int width = width(k);
        int from = at;
        for (int i = 0; i < n && width == 0; i++) {
            row.add(unlike.get(0));
        }
        for (int i = 0; i < n && width > 0; i++) {
            int number = Integer.parseInt(bits(from, i * width, width), 2);
            must(number < k, 4);
            row.add(unlike.get(number));
        }
        restZero(from, n * width);
    }

    private void readPrefix(List<Integer> row, int n) throws Fault {
        int k = next() + 1;
        Map<Integer, Integer> lengths = new TreeMap<>();
        int last = -1;
        double sum = 0;
        for (int i = 0; i < k; i++) {
            int b = next();
            must(b > last, 4);
            last = b;
            int length = next();
            must(length >= 1 && length <= 15, 4);
            lengths.put(b, length);
            sum += Math.pow(2, -length);
        }
        must(k == 1 ? lengths.get(last) == 1 : sum == 1, 4);
        Map<String, Integer> bytes = new HashMap<>();
        codes(lengths).forEach((b, code) -> bytes.put(code, b));
        int from = at;
        int offset = 0;
        while (row.size() < n) {
            String code = "";
            while (!bytes.containsKey(code)) {
                code += bits(from, offset, 1);
                offset++;
                must(k > 1 || code.equals("0"), 4);
            }
            row.add(bytes.get(code));
        }
        restZero(from, offset);
    }

    private static List<Integer> restored(int kind, int v, List<Integer> row) {
        Integer[] made = new Integer[row.size()];
        List<Integer> list = new ArrayList<>();
        for (int b = 0; b < 256; b++) {
            list.add(b);
        }
        List<Integer> places = new ArrayList<>();
        for (int i = 0; i < row.size(); i++) {
            places.add(i);
        }
        // Planes move places about as they move bytes, so they tell where each byte was (places as whole numbers).
        List<Integer> moved = kind == 3 ? filtered(3, v, places) : places;
        for (int i = 0; i < row.size(); i++) {
            int b = row.get(i);
            switch (kind) {
                case 1 -> made[i] = i < v ? b : (b + made[i - v]) % 256;
                case 2 -> {
                    made[i] = list.remove(b);
                    list.add(0, made[i]);
                }
                case 3 -> made[moved.get(i)] = b;
                default -> made[i] = b ^ v;
            }
        }
        return new ArrayList<>(Arrays.asList(made));
    }
}
