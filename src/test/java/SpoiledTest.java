import java.util.ArrayList;
import java.util.List;

/** Short texts by every chain, and OUT with each byte changed to each other one, on the class and on the model. */
public final class SpoiledTest extends Rows {
    /** An object is used for 512 calls at most; each changed byte takes three. */
    private static final int BYTES_AN_OBJECT = 128;
    private static final Due due = new Due();

    public static void main(String[] args) {
        everyShortText();
        everyByte();
        due.end();
    }

    /** Every text of three unlike bytes, up to seven long, by every packer, and two filters before it. */
    private static void everyShortText() {
        due.promise("every short text");
        int[] bytes = {0, 1, 255};
        for (int n = 0; n <= 7; n++) {
            for (int number = 0; number < Math.pow(3, n); number++) {
                int[] text = new int[n];
                int rest = number;
                for (int i = 0; i < n; i++) {
                    text[i] = bytes[rest % 3];
                    rest /= 3;
                }
                packs(text);
            }
        }
    }

    private static void packs(int[] text) {
        Tested x = new Tested();
        Model m = new Model();
        tell(x, m);
        put(x, m, text);
        due.is("choose()", x.choose(1_000_000, 2000), m.choose(1_000_000, 2000));
        due.is("told(3)", x.told(3), m.told(3));
        due.is("learn()", x.learn(), m.learn());
        for (int k = 0; k < x.chains(); k++) {
            due.is("pack(" + k + ")", x.pack(k), m.pack(k));
            sameRow(x, m, 1);
            due.is("unpack()", x.unpack(), text.length);
        }
        due.row("the text again", x, 0, text);
    }

    private static void tell(Tested x, Model m) {
        for (int kind = 1; kind <= 4; kind++) {
            x.packer(kind);
            m.packer(kind);
        }
        x.filter(2, 0);
        m.filter(2, 0);
        x.filter(1, 2);
        m.filter(1, 2);
    }

    private static void put(Tested x, Model m, int[] text) {
        for (int b : text) {
            x.add(b);
            m.add(b);
        }
    }

    private static void sameRow(Tested x, Model m, int which) {
        due.is("size(" + which + ")", x.size(which), m.size(which));
        boolean like = true;
        for (int i = 0; i < m.size(which); i++) {
            like &= x.octet(which, i) == m.octet(which, i);
        }
        due.yes("row " + which, like);
    }

    private static void everyByte() {
        List<int[]> texts = new ArrayList<>();
        texts.add(of(7));
        texts.add(of(7, 7, 7, 7, 7, 7, 7, 7, 7));
        texts.add(of(0, 255));
        texts.add(of(1, 2, 3, 1, 2, 3, 1, 2));
        texts.add(of(9, 8, 7, 6, 5));
        texts.add(of(1, 1, 1, 1, 2, 2, 3, 4));
        texts.add(of(0, 0, 0, 5, 0, 0, 0, 0, 5, 5, 6));
        for (int[] text : texts) {
            for (int k = 0; k < 25; k += k < 5 ? 1 : 3) {
                spoils(text, k);
            }
        }
    }

    private static void spoils(int[] text, int k) {
        due.promise("every byte of OUT, chain " + k);
        Model m = new Model();
        Tested x = null;
        Model first = new Model();
        tell(new Tested(), first);
        put(new Tested(), first, text);
        int n = first.pack(k);
        for (int i = 0; i < n; i++) {
            int old = first.octet(1, i);
            for (int b = 0; b < 256; b++) {
                if (b % BYTES_AN_OBJECT == 0) {
                    x = new Tested();
                    m = new Model();
                    tell(x, m);
                    put(x, m, text);
                    x.pack(k);
                    m.pack(k);
                }
                x.alter(i, b);
                m.alter(i, b);
                String name = "unpack() with " + b + " for " + old + " at " + i;
                due.is(name, x.unpack(), m.unpack());
                due.is(name + ", place()", x.place(), m.place());
            }
            sameRow(x, m, 0);
        }
    }
}
