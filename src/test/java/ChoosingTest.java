/** Promises 12 to 17: choose, told, learn, feature, learned, share. */
public final class ChoosingTest {
    private static final int BAD = ChainChoice.BAD, NO = ChainChoice.NO;
    private static final int MOST = Integer.MAX_VALUE;
    private static final Due due = new Due();

    public static void main(String[] args) {
        wrong();
        least();
        ties();
        withinSteps();
        withinMemory();
        flat();
        flatEdges();
        learn();
        features();
        share();
        due.end();
    }

    private static void tells(Tested x, int... want) {
        for (int what = 0; what < want.length; what++) {
            due.is("told(" + what + ")", x.told(what), want[what]);
        }
    }

    private static void wrong() {
        due.promise("12 choose, 13 told: wrong");
        Tested x = Due.of(5, 5, 5, 5);
        due.is("told(0)", x.told(0), NO);
        due.is("told(-1)", x.told(-1), BAD);
        due.is("told(6)", x.told(6), BAD);
        due.is("choose(-1, 0)", x.choose(-1, 0), BAD);
        due.is("choose(0, -1)", x.choose(0, -1), BAD);
        due.is("told(0)", x.told(0), NO);
        due.is("learn()", x.learn(), NO);
        due.is("choose(4, 0)", x.choose(4, 0), 0);
        tells(x, 1, 4, 0, 8, 0, 0);
        due.is("choose(-1, 0)", x.choose(-1, 0), BAD);
        due.is("choose(0, least)", x.choose(0, Integer.MIN_VALUE), BAD);
        tells(x, 1, 4, 0, 8, 0, 0);
        due.is("told(6)", x.told(6), BAD);
        due.is("told(-1)", x.told(-1), BAD);
    }

    private static void least() {
        due.promise("12 choose: the least");
        Tested x = Due.of(5, 5, 5, 5, 5, 5, 5, 5, 5, 5);
        x.packer(4);
        x.packer(3);
        x.packer(1);
        // 14; 4 + 4; 4 + 3 + 2; 4 + 2
        due.is("choose(most, most)", x.choose(MOST, MOST), 3);
        tells(x, 4, 10 * (1 + 64 + 4 + 2), 3, 6, 0, 0);
        due.is("size(1): OUT stays", x.size(1), 0);
        x.clear();
        Due.put(x, 1, 2, 3, 4, 5, 6);
        x.filter(1, 1);
        // 1 1 1 1 1 1 by RUNS: 6 + 2; without a filter it stays at 10.
        due.is("choose(most, most)", x.choose(MOST, MOST), 7);
        due.is("told(0)", x.told(0), 8);
        due.is("told(3)", x.told(3), 8);
    }

    private static void ties() {
        due.promise("12 choose: like ones");
        Tested x = Due.of(7, 7, 7);
        x.packer(3);
        x.packer(2);
        x.packer(1);
        // STORED 7, PREFIX 8, BITS 6, RUNS 6: both take 2 steps, so the lesser number.
        due.is("choose()", x.choose(MOST, MOST), 2);
        x.forget();
        x.clear();
        Due.put(x, 7, 7, 7, 7, 7, 7, 7, 7, 7);
        x.packer(4);
        x.packer(3);
        // STORED 13, MATCHES 4 + 4, PREFIX 4 + 3 + 2.
        due.is("choose()", x.choose(MOST, MOST), 1);
        x.forget();
        x.clear();
        Due.put(x, 7, 7, 7, 7, 7, 7, 7, 7);
        x.packer(4);
        x.packer(3);
        // Both 8 bytes: PREFIX takes 4 steps a byte, MATCHES 64.
        due.is("choose()", x.choose(MOST, MOST), 2);
        due.is("told(3)", x.told(3), 8);
        x.clear();
        Due.put(x, 7, 7, 7, 7);
        // STORED 8, MATCHES 8, PREFIX 8: of like ones the first takes fewest.
        due.is("choose()", x.choose(MOST, MOST), 0);
    }

    private static void withinSteps() {
        due.promise("12 choose: steps");
        Tested x = Due.of(7, 7, 7, 7, 7, 7, 7, 7, 7, 7);
        x.packer(4);
        x.packer(1);
        due.is("choose(9, most)", x.choose(9, MOST), 0);
        tells(x, 0, 0, 0, 14, 0, 0);
        due.is("choose(10, most)", x.choose(10, MOST), 0);
        tells(x, 1, 10, 0, 14, 0, 0);
        // MATCHES ends it, although RUNS would still go.
        due.is("choose(649, most)", x.choose(649, MOST), 0);
        tells(x, 1, 10, 0, 14, 0, 0);
        due.is("choose(650, most)", x.choose(650, MOST), 1);
        tells(x, 2, 650, 1, 8, 0, 0);
        due.is("choose(669, most)", x.choose(669, MOST), 1);
        due.is("choose(670, most)", x.choose(670, MOST), 2);
        tells(x, 3, 670, 2, 6, 0, 0);
        x.clear();
        due.is("choose(0, 0) of none", x.choose(0, 0), 0);
        tells(x, 2, 0, 0, 4, 1, 0);
    }

    private static void withinMemory() {
        due.promise("12 choose: memory");
        Tested x = Due.of(7, 7, 7, 7, 7, 7, 7, 7, 7, 7);
        x.packer(4);
        x.packer(1);
        // MATCHES is not offered, so it does not end it either.
        due.is("choose(30, 511)", x.choose(30, 511), 2);
        tells(x, 2, 30, 2, 6, 1, 0);
        due.is("choose(30, 512)", x.choose(30, 512), 0);
        tells(x, 1, 10, 0, 14, 0, 0);
        due.is("choose(29, 0)", x.choose(29, 0), 0);
        tells(x, 1, 10, 0, 14, 1, 0);
        due.is("choose(9, 0)", x.choose(9, 0), 0);
        // The very first one ends it: MATCHES was never looked at.
        tells(x, 0, 0, 0, 14, 0, 0);
        x.filter(2, 0);
        due.is("choose(most, 255)", x.choose(MOST, 255), 2);
        tells(x, 2, 30, 2, 6, 4, 0);
        due.is("choose(most, 256)", x.choose(MOST, 256), 2);
        tells(x, 4, 30 + 170 + 180, 2, 6, 2, 0);
    }

    private static void flat() {
        due.promise("12 choose: FLAT");
        Tested x = new Tested();
        for (int i = 0; i < 64; i++) {
            x.add(i);
        }
        x.filter(1, 1);
        x.packer(1);
        due.is("choose(0, 0)", x.choose(0, 0), 0);
        tells(x, 0, 0, 0, 68, 0, 1);
        due.is("choose(most, most)", x.choose(MOST, MOST), 0);
        tells(x, 0, 0, 0, 68, 0, 1);
        due.is("choose(-1, 0)", x.choose(-1, 0), BAD);
        x.clear();
        for (int i = 0; i < 63; i++) {
            x.add(i);
        }
        due.is("choose() of 63", x.choose(MOST, MOST), 3);
        due.is("told(5)", x.told(5), 0);
        // 0, then 62 times 1 in one run: 6 + 2 + 2.
        due.is("told(3)", x.told(3), 10);
    }

    private static void flatEdges() {
        due.promise("FLAT, edges");
        for (int n : new int[] {64, 95, 96, 127, 128, 300}) {
            for (int more = 0; more < 2; more++) {
                flatBy(n, more, 0);
                flatBy(n, more, 77);
                flatBy(n, more, 255);
            }
        }
    }

    /** One byte stands there as often as it may, or once more. */
    private static void flatBy(int n, int more, int b) {
        Tested x = new Tested();
        int most = 2 + n / 32 + more;
        for (int i = 0; i < n; i++) {
            x.add(i < most ? b : (b + 1 + (i - most) % 200) % 256);
        }
        x.choose(0, 0);
        due.is("told(5) of " + n + " with " + most + " of " + b, x.told(5), 1 - more);
    }

    private static void learn() {
        due.promise("14 learn, 16 learned");
        Tested x = Due.of(7, 7, 7, 7, 7, 7, 7, 7, 7, 7);
        due.is("learn()", x.learn(), NO);
        x.packer(1);
        x.choose(MOST, MOST);
        due.is("learned(12)", x.learned(12), NO);
        due.is("learn()", x.learn(), 12);
        due.is("learned(12)", x.learned(12), 1);
        due.is("learned(0)", x.learned(0), NO);
        // The choice stays when the text becomes another: it is learned for what that one is like.
        x.clear();
        Due.put(x, 10, 20);
        due.is("learn()", x.learn(), 0);
        due.is("learned(0)", x.learned(0), 1);
        x.choose(0, 0);
        due.is("learn()", x.learn(), 0);
        due.is("learned(0)", x.learned(0), 0);
        due.is("learned(12)", x.learned(12), 1);
        due.is("learned(63)", x.learned(63), NO);
        due.is("learned(64)", x.learned(64), BAD);
        due.is("learned(-1)", x.learned(-1), BAD);
        due.is("learned(most)", x.learned(MOST), BAD);
    }

    private static void features() {
        due.promise("15 feature");
        due.is("none", new Tested().feature(), 0);
        due.is("one", Due.of(5).feature(), 0);
        due.is("two like", Due.of(5, 5).feature(), 8);
        due.is("four like", Due.of(5, 5, 5, 5).feature(), 12);
        due.is("three of four", Due.of(5, 5, 5, 9).feature(), 8);
        due.is("by 1, by 2, by 3", Due.of(5, 6, 8, 11).feature(), 16 + 2);
        due.is("falling", Due.of(11, 8, 6, 5).feature(), 16 + 2);
        due.is("255 and 0", Due.of(255, 0, 255, 0).feature(), 0);
        due.is("both", Due.of(5, 5, 6, 6, 60).feature(), 16 + 4);
        due.is("cut", Due.of(1, 2, 100, 100, 50, 50, 9, 9, 30).feature(), 16 + 4);
        int[] unlike = {1, 2, 3, 16, 17, 64, 65, 256};
        int[] of = {0, 0, 1, 1, 2, 2, 3, 3};
        for (int i = 0; i < unlike.length; i++) {
            Tested x = new Tested();
            for (int j = 0; j < unlike[i]; j++) {
                x.add(j * 7 % 256);
            }
            due.is("of " + unlike[i], x.feature(), 16 * of[i]);
        }
        Tested y = new Tested();
        for (int i = 0; i < 256; i++) {
            y.add(i);
        }
        due.is("rising", y.feature(), 48 + 3);
    }

    private static void share() {
        due.promise("17 share");
        Tested x = new Tested();
        due.is("share(1, 3)", x.share(1, 3), 333);
        due.is("share(2, 3)", x.share(2, 3), 666);
        due.is("share(0, 3)", x.share(0, 3), 0);
        due.is("share(7, 7)", x.share(7, 7), 1000);
        due.is("share(-5, 3)", x.share(-5, 3), -1666);
        due.is("share(5, -3)", x.share(5, -3), -1666);
        due.is("share(-5, -3)", x.share(-5, -3), 1666);
        due.is("share(most, 1)", x.share(MOST, 1), 2147483647000L);
        due.is("share(least, -1)", x.share(Integer.MIN_VALUE, -1), 2147483648000L);
        for (int part : new int[] {0, 5, -5}) {
            int thrown = 0;
            try {
                x.share(part, 0);
            } catch (ArithmeticException e) {
                thrown = 1;
                // The class throws it itself: the machine's own would say "/ by zero".
                due.yes("thrown by the class", !"/ by zero".equals(e.getMessage()));
            }
            due.is("share(" + part + ", 0) throws", thrown, 1);
        }
    }
}
