/** What the document says of FLAT, THE FEATURE and promises 12 to 17 at their edges, a sentence each. */
public final class ChoiceEdgesTest extends Rows {
    private static final int BAD = ChainChoice.BAD, NO = ChainChoice.NO;
    private static final int LEAST = Integer.MIN_VALUE, MOST = Integer.MAX_VALUE;
    private static final Due due = new Due();

    public static void main(String[] args) {
        flatFrom64();
        flatNoneMore();
        featureUnlike();
        featureLike();
        featureNear();
        featureCut();
        featureOfNone();
        chooseFlat();
        chooseInOrder();
        chooseMemory();
        chooseSteps();
        chooseEnds();
        chooseFewestBytes();
        chooseFewestSteps();
        chooseLeastNumber();
        chooseNoneTried();
        chooseEmpty();
        chooseWrong();
        toldNumbers();
        toldNotOffered();
        toldOfFlat();
        toldLatest();
        toldWrong();
        toldNone();
        learn();
        learnNone();
        learnOfEdges();
        learned();
        shareCut();
        shareFarthest();
        shareOfNothing();
        due.end();
    }

    private static void tells(Tested x, int... want) {
        for (int what = 0; what < want.length; what++) {
            due.is("told(" + what + ")", x.told(what), want[what]);
        }
    }

    // ---- FLAT

    /** n bytes of which b stands there so often, and each other one once or twice. */
    private static int[] withSome(int n, int b, int often) {
        int[] row = many(b, n);
        for (int i = often; i < n; i++) {
            row[i] = (b + 1 + (i - often) % 255) % 256;
        }
        return row;
    }

    private static void isFlat(int want, int... text) {
        Tested x = Due.of(text);
        due.is("choose()", x.choose(0, 0), 0);
        due.is("told(5) of " + text.length, x.told(5), want);
    }

    private static void flatFrom64() {
        due.sentence("THE TEXT is FLAT, if it has 64 bytes or more");
        isFlat(0);
        isFlat(0, rising(1));
        isFlat(0, rising(62));
        isFlat(0, rising(63));
        isFlat(1, rising(64));
        isFlat(1, rising(65));
        isFlat(1, rising(256));
        isFlat(1, rising(300));
    }

    private static void flatNoneMore() {
        due.sentence("and none stands in it more than 2 + n / 32 times (cut).");
        int[] counts = {64, 65, 95, 96, 127, 128, 159, 160, 255, 256, 287, 288, 300};
        int[] most = {4, 4, 4, 5, 5, 6, 6, 7, 9, 10, 10, 11, 11};
        for (int i = 0; i < counts.length; i++) {
            for (int b : of(0, 1, 128, 255)) {
                isFlat(1, withSome(counts[i], b, most[i] - 1));
                isFlat(1, withSome(counts[i], b, most[i]));
                isFlat(0, withSome(counts[i], b, most[i] + 1));
            }
            isFlat(0, many(7, counts[i]));
        }
    }

    // ---- THE FEATURE

    private static void featureUnlike() {
        due.sentence("a is 0, 1, 2, 3 by how many unlike bytes it has (up to 2, 16, 64, more)");
        int[] unlike = {1, 2, 3, 4, 15, 16, 17, 18, 63, 64, 65, 66, 255, 256};
        int[] want = {0, 0, 1, 1, 1, 1, 2, 2, 2, 2, 3, 3, 3, 3};
        for (int i = 0; i < unlike.length; i++) {
            // 5 apart each, so that none is like or near the one before; over 256 all come once.
            int[] text = new int[unlike[i]];
            for (int j = 0; j < text.length; j++) {
                text[j] = (255 + 5 * j) % 256;
            }
            due.is("of " + unlike[i], Due.of(text).feature(), 16 * want[i]);
        }
        due.is("300 bytes of 2", Due.of(join(many(0, 150), many(255, 150))).feature(), 12);
    }

    private static void featureLike() {
        due.sentence("b is 4 times the places (from 1 on) whose byte is the one before");
        due.is("0 of 1", Due.of(0).feature(), 0);
        due.is("1 of 2", Due.of(0, 0).feature(), 8);
        due.is("1 of 4", Due.of(0, 0, 50, 0).feature(), 4);
        due.is("1 of 5", Due.of(0, 0, 50, 0, 50).feature(), 0);
        due.is("2 of 4", Due.of(0, 0, 0, 50).feature(), 8);
        due.is("2 of 5", Due.of(0, 0, 0, 50, 0).feature(), 4);
        due.is("3 of 4", Due.of(0, 0, 0, 0).feature(), 12);
        due.is("3 of 5", Due.of(0, 0, 0, 0, 50).feature(), 8);
        due.is("the last place too", Due.of(50, 0, 50, 50).feature(), 4);
        due.is("all of 300", Due.of(many(9, 300)).feature(), 12);
        due.is("two before does not count", Due.of(0, 50, 0, 50, 0, 50, 0, 50).feature(), 0);
    }

    private static void featureNear() {
        due.sentence("c 4 times those whose byte differs from it by 1 or 2");
        due.is("by 1, up", Due.of(5, 6).feature(), 2);
        due.is("by 1, down", Due.of(6, 5).feature(), 2);
        due.is("by 2, up", Due.of(5, 7).feature(), 2);
        due.is("by 2, down", Due.of(7, 5).feature(), 2);
        due.is("by 3, up", Due.of(5, 8).feature(), 0);
        due.is("by 3, down", Due.of(8, 5).feature(), 0);
        due.is("by 0", Due.of(5, 5).feature(), 8);
        due.is("255 and 0 differ by 255", Due.of(255, 0).feature(), 0);
        due.is("0 and 254 differ by 254", Due.of(0, 254).feature(), 0);
        due.is("1 of 4", Due.of(5, 6, 99, 5).feature(), 16 + 1);
        due.is("1 of 5", Due.of(5, 6, 99, 5, 99).feature(), 16);
        due.is("3 of 4", Due.of(5, 6, 8, 7).feature(), 16 + 3);
        due.is("255 of 256", Due.of(rising(256)).feature(), 48 + 3);
    }

    private static void featureCut() {
        due.sentence("each by n (cut; 3 at most; 0 for n = 0).");
        for (int n = 1; n <= 40; n++) {
            for (int like = 0; like < n; like++) {
                int[] text = new int[n];
                for (int i = 1; i < n; i++) {
                    text[i] = i <= like ? text[i - 1] : 100 - text[i - 1];
                }
                due.is(like + " like of " + n, Due.of(text).feature(), 4 * (4 * like / n));
                for (int i = 1; i < n; i++) {
                    text[i] = i <= like ? 1 - text[i - 1] : text[i - 1] < 100 ? 200 : text[i - 1] == 200 ? 210 : 200;
                }
                due.is(like + " near of " + n, Due.of(text).feature() % 4, 4 * like / n);
            }
        }
    }

    private static void featureOfNone() {
        due.sentence("each by n (cut; 3 at most; 0 for n = 0).");
        Tested x = new Tested();
        due.is("a new one's", x.feature(), 0);
        x.fill(300, 1, 3);
        x.clear();
        due.is("behind clear()", x.feature(), 0);
    }

    // ---- choose

    private static Tested likeTen(int... packers) {
        Tested x = Due.of(many(7, 10));
        for (int kind : packers) {
            x.packer(kind);
        }
        return x;
    }

    private static void chooseFlat() {
        due.sentence("The CHAIN chosen: 0, if THE TEXT is FLAT");
        Tested x = Due.of(rising(64));
        x.filter(1, 1);
        x.packer(1);
        due.is("chain(3, 5) is less", x.chain(3, 5), 6 + 4);
        due.is("choose(most, most)", x.choose(MOST, MOST), 0);
        x.clear();
        Due.put(x, rising(63));
        due.is("choose() of 63", x.choose(MOST, MOST), 3);
    }

    private static void chooseInOrder() {
        due.sentence("else CHAINS are tried in order");
        Tested x = likeTen(3, 1);
        // STORED takes 10, PREFIX 40, RUNS 20.
        due.is("choose(49, most)", x.choose(49, MOST), 0);
        due.is("choose(50, most)", x.choose(50, MOST), 1);
        due.is("choose(70, most)", x.choose(70, MOST), 2);
        Tested y = likeTen(1, 3);
        due.is("choose(30, most)", y.choose(30, MOST), 1);
    }

    private static void chooseMemory() {
        due.sentence("one whose MEMORY is above what is told is not OFFERED");
        int[] memory = {0, 0, 256, 1024, 512};
        for (int kind = 2; kind <= 4; kind++) {
            Tested x = likeTen(kind);
            due.is("choose(most, 0)", x.choose(MOST, 0), 0);
            tells(x, 1, 10, 0, 14, 1, 0);
            x.choose(MOST, memory[kind] - 1);
            tells(x, 1, 10, 0, 14, 1, 0);
            due.is("choose(most, " + memory[kind] + ")", x.choose(MOST, memory[kind]), 1);
            due.is("told(4)", x.told(4), 0);
            due.is("told(0)", x.told(0), 2);
        }
        Tested y = likeTen(1);
        due.is("RUNS needs none", y.choose(MOST, 0), 1);
        y.filter(2, 0);
        y.choose(MOST, 255);
        due.is("FRONT is not offered, twice", y.told(4), 2);
        y.choose(MOST, 256);
        due.is("FRONT is offered", y.told(4), 0);
    }

    private static void chooseSteps() {
        due.sentence("each takes its STEPS a byte, for each byte");
        int[] steps = {1, 2, 2, 4, 64};
        for (int kind = 1; kind <= 4; kind++) {
            Tested x = likeTen(kind);
            int both = 10 + 10 * steps[kind];
            x.choose(both - 1, MOST);
            due.is("told(0), one step too few", x.told(0), 1);
            due.is("told(1), one step too few", x.told(1), 10);
            x.choose(both, MOST);
            due.is("told(0), just enough", x.told(0), 2);
            due.is("told(1), just enough", x.told(1), both);
            x.choose(MOST, MOST);
            due.is("told(1), more than enough", x.told(1), both);
        }
        // All 85 CHAINS over 300 bytes: 17 times 73 for the PACKERS, and for each FILTER's 7 times 5 its own.
        Tested y = likeTen(1, 2, 3, 4);
        y.filter(1, 1);
        y.filter(2, 0);
        y.filter(3, 2);
        y.filter(4, 1);
        Due.put(y, many(7, 290));
        int all = 300 * (17 * 73 + 35 * (1 + 16 + 1 + 1));
        y.choose(all, MOST);
        due.is("told(0)", y.told(0), 85);
        due.is("told(1)", y.told(1), all);
        y.choose(all - 1, MOST);
        due.is("told(0), one step too few", y.told(0), 84);
    }

    private static void chooseEnds() {
        due.sentence("the first one for which fewer are left of those told ends it.");
        Tested x = likeTen(4, 1);
        // RUNS would go, but MATCHES before it has ended it.
        due.is("choose(649, most)", x.choose(649, MOST), 0);
        tells(x, 1, 10, 0, 14, 0, 0);
        // One that is not OFFERED does not end it.
        due.is("choose(30, 511)", x.choose(30, 511), 2);
        tells(x, 2, 30, 2, 6, 1, 0);
        // Those behind the end are not looked at, so not counted either.
        Tested y = likeTen(1, 4, 3);
        due.is("choose(29, 0)", y.choose(29, 0), 0);
        tells(y, 1, 10, 0, 14, 0, 0);
        due.is("choose(30, 0)", y.choose(30, 0), 1);
        tells(y, 2, 30, 1, 6, 2, 0);
    }

    private static void chooseFewestBytes() {
        due.sentence("Of those tried that of fewest bytes");
        // MATCHES 4 + 4, PREFIX 4 + 5, RUNS 4 + 2.
        Tested x = likeTen(4, 3, 1);
        due.is("choose()", x.choose(MOST, MOST), 3);
        due.is("told(3)", x.told(3), 6);
        due.is("choose(690, most)", x.choose(690, MOST), 1);
        due.is("told(3)", x.told(3), 8);
        // A head of a FILTER counts: 5 6 by XOR is no less.
        Tested y = Due.of(5, 6);
        y.filter(4, 5);
        due.is("choose()", y.choose(MOST, MOST), 0);
        // One byte less is enough, whatever it takes.
        Tested z = Due.of(many(7, 5));
        z.packer(4);
        due.is("choose() of 5", z.choose(MOST, MOST), 1);
        due.is("told(3)", z.told(3), 8);
    }

    private static void chooseFewestSteps() {
        due.sentence("of like ones of fewest STEPS a byte");
        // 8 bytes: MATCHES 4 + 4 (64 STEPS), PREFIX 4 + 4 (4 STEPS).
        Tested x = Due.of(many(7, 8));
        x.packer(4);
        x.packer(3);
        due.is("choose()", x.choose(MOST, MOST), 2);
        // PREFIX first: MATCHES behind it takes more.
        Tested y = Due.of(many(7, 8));
        y.packer(3);
        y.packer(4);
        due.is("choose()", y.choose(MOST, MOST), 1);
        due.is("with STEPS for STORED and MATCHES alone", x.choose(8 * 65, MOST), 1);
    }

    private static void chooseLeastNumber() {
        due.sentence("of like ones of fewest STEPS a byte, then the least");
        Tested x = Due.of(7, 7, 7);
        x.packer(2);
        x.packer(1);
        due.is("BITS before RUNS", x.choose(MOST, MOST), 1);
        x.forget();
        x.packer(1);
        x.packer(2);
        due.is("RUNS before BITS", x.choose(MOST, MOST), 1);
        // 2 bytes: STORED 6, RUNS 6: STORED takes fewer.
        Tested y = Due.of(7, 7);
        y.packer(1);
        due.is("STORED", y.choose(MOST, MOST), 0);
        // DELTA 1 and DELTA 1 are alike in all but their number.
        Tested z = Due.of(1, 2, 3, 4, 5, 6, 7, 8, 9);
        z.filter(1, 1);
        z.filter(1, 1);
        z.packer(1);
        due.is("the first DELTA", z.choose(MOST, MOST), 3);
    }

    private static void chooseNoneTried() {
        due.sentence("0 if none was tried.");
        Tested x = likeTen(1);
        due.is("choose(9, most)", x.choose(9, MOST), 0);
        tells(x, 0, 0, 0, 14, 0, 0);
        due.is("choose(0, 0)", x.choose(0, 0), 0);
        tells(x, 0, 0, 0, 14, 0, 0);
        due.is("learn()", x.learn(), 12);
        due.is("learned(12)", x.learned(12), 0);
    }

    private static void chooseEmpty() {
        due.sentence("each takes its STEPS a byte, for each byte");
        Tested x = new Tested();
        x.filter(2, 0);
        x.packer(4);
        x.packer(1);
        // No byte takes no STEPS: all that are OFFERED are tried.
        due.is("choose(0, 0)", x.choose(0, 0), 0);
        tells(x, 2, 0, 0, 4, 4, 0);
        due.is("choose(0, 512)", x.choose(0, 512), 0);
        tells(x, 6, 0, 0, 4, 0, 0);
    }

    private static void chooseWrong() {
        due.sentence("BAD: a number is below 0.");
        Tested x = likeTen(1);
        x.choose(MOST, MOST);
        for (int number : of(-1, -2, LEAST)) {
            due.is("choose(" + number + ", 0)", x.choose(number, 0), BAD);
            due.is("choose(0, " + number + ")", x.choose(0, number), BAD);
            due.is("choose(" + number + ", " + number + ")", x.choose(number, number), BAD);
        }
        tells(x, 2, 30, 1, 6, 0, 0);
        Tested y = Due.of(rising(64));
        due.is("choose(-1, 0) of a FLAT one", y.choose(-1, 0), BAD);
        due.is("choose(0, -1) of a FLAT one", y.choose(0, -1), BAD);
        due.is("told(5)", y.told(5), NO);
    }

    // ---- told

    private static void toldNumbers() {
        due.sentence("3 the least number of bytes (of the CHAIN; of 0, if none was tried)");
        Tested x = likeTen(4, 1);
        x.choose(30, 511);
        tells(x, 2, 30, 2, 6, 1, 0);
        x.choose(9, 511);
        tells(x, 0, 0, 0, 14, 0, 0);
        x.choose(10, 511);
        tells(x, 1, 10, 0, 14, 1, 0);
        due.is("told(3) is what the CHAIN packs to", x.told(3), x.chain(0, 5));
    }

    private static void toldNotOffered() {
        due.sentence("4 how many were not OFFERED (of those looked at)");
        // In order STORED (10 STEPS), PREFIX, RUNS (20), MATCHES; then all of them behind FRONT.
        Tested x = likeTen(3, 1, 4);
        x.filter(2, 0);
        x.choose(9, 0);
        due.is("the first one ends it", x.told(4), 0);
        x.choose(29, 0);
        due.is("RUNS ends it", x.told(4), 1);
        x.choose(30, 0);
        due.is("none ends it", x.told(4), 6);
        x.choose(199, 256);
        due.is("FRONT with STORED ends it", x.told(4), 2);
        x.choose(200, 256);
        due.is("FRONT with RUNS ends it", x.told(4), 3);
        x.choose(380, 256);
        due.is("none ends it", x.told(4), 4);
        x.choose(MOST, 1024);
        due.is("all are OFFERED", x.told(4), 0);
    }

    private static void toldOfFlat() {
        due.sentence("5 1 if it was FLAT, else 0.");
        Tested x = likeTen(1);
        x.choose(30, 0);
        tells(x, 2, 30, 1, 6, 0, 0);
        x.clear();
        x.fill(300, 9, 0);
        x.choose(MOST, 0);
        tells(x, 0, 0, 0, 304, 0, 1);
        x.clear();
        due.is("what it was stays", x.told(5), 1);
        x.choose(0, 0);
        tells(x, 2, 0, 0, 4, 0, 0);
    }

    private static void toldLatest() {
        due.sentence("Of the latest choose()");
        Tested x = likeTen(1);
        x.choose(MOST, MOST);
        x.choose(10, 0);
        tells(x, 1, 10, 0, 14, 0, 0);
        x.clear();
        x.unpack();
        tells(x, 1, 10, 0, 14, 0, 0);
    }

    private static void toldWrong() {
        due.sentence("BAD; NO: there was none, or it is gone.");
        Tested x = likeTen(1);
        for (int what : of(-1, 6, 7, LEAST, MOST)) {
            due.is("told(" + what + ") of none", x.told(what), BAD);
        }
        x.choose(0, 0);
        for (int what : of(-1, 6, 7, LEAST, MOST)) {
            due.is("told(" + what + ")", x.told(what), BAD);
        }
    }

    private static void toldNone() {
        due.sentence("BAD; NO: there was none, or it is gone.");
        Tested x = new Tested();
        x.choose(-1, 0);
        for (int what = 0; what < 6; what++) {
            due.is("told(" + what + ")", x.told(what), NO);
        }
        x.choose(0, 0);
        x.forget();
        for (int what = 0; what < 6; what++) {
            due.is("told(" + what + ") is gone", x.told(what), NO);
        }
    }

    // ---- learn, learned

    private static void learn() {
        due.sentence("The CHAIN of the latest choose() is learned for THE FEATURE of THE TEXT: that FEATURE.");
        Tested x = likeTen(1);
        x.choose(MOST, MOST);
        due.is("not by choose() alone", x.learned(12), NO);
        due.is("learn()", x.learn(), 12);
        due.is("learned(12)", x.learned(12), 1);
        x.choose(0, 0);
        due.is("not by choose() alone", x.learned(12), 1);
        due.is("learn() once more", x.learn(), 12);
        due.is("learned(12)", x.learned(12), 0);
        // THE TEXT as it is when it is learned.
        x.choose(MOST, MOST);
        x.clear();
        due.is("learn() of another text", x.learn(), 0);
        due.is("learned(0)", x.learned(0), 1);
        due.is("learned(12)", x.learned(12), 0);
    }

    private static void learnNone() {
        due.sentence("that FEATURE. NO: there was none, or it is gone.");
        Tested x = likeTen();
        due.is("there was none", x.learn(), NO);
        x.choose(-1, -1);
        due.is("a refused one is none", x.learn(), NO);
        x.choose(0, 0);
        due.is("there is one", x.learn(), 12);
        x.packer(1);
        due.is("it is gone", x.learn(), NO);
        due.is("learned(12)", x.learned(12), NO);
    }

    private static void learnOfEdges() {
        due.sentence("The CHAIN that is learned for a FEATURE.");
        // The least and the greatest FEATURE that a text can have: b and c are never both 3.
        Tested x = new Tested();
        x.choose(0, 0);
        due.is("learn() of none", x.learn(), 0);
        due.is("learned(0)", x.learned(0), 0);
        // 65 unlike bytes, 75 of 100 or more places like.
        int[] text = many(0, 300);
        for (int i = 236; i < 300; i++) {
            text[i] = (i - 235) * 3;
        }
        Due.put(x, text);
        due.is("learn()", x.learn(), 48 + 12);
        due.is("learned(60)", x.learned(60), 0);
        due.is("learned(61)", x.learned(61), NO);
    }

    private static void learned() {
        due.sentence("BAD (0 to 63); NO: none is.");
        Tested x = likeTen(1);
        for (int feature = 0; feature < 64; feature++) {
            due.is("learned(" + feature + ")", x.learned(feature), NO);
        }
        for (int feature : of(-1, 64, 65, 256, LEAST, MOST)) {
            due.is("learned(" + feature + ")", x.learned(feature), BAD);
        }
        x.choose(MOST, MOST);
        x.learn();
        for (int feature = 0; feature < 64; feature++) {
            due.is("learned(" + feature + ")", x.learned(feature), feature == 12 ? 1 : NO);
        }
        due.is("learned(-1)", x.learned(-1), BAD);
        due.is("learned(64)", x.learned(64), BAD);
    }

    // ---- share

    private static void shareCut() {
        due.sentence("1000 times this by that, cut.");
        Tested x = new Tested();
        due.is("share(0, 1)", x.share(0, 1), 0);
        due.is("share(1, 1000)", x.share(1, 1000), 1);
        due.is("share(1, 1001)", x.share(1, 1001), 0);
        due.is("share(1999, 2000)", x.share(1999, 2000), 999);
        due.is("share(2000, 2000)", x.share(2000, 2000), 1000);
        due.is("share(2, 3)", x.share(2, 3), 666);
        due.is("share(-2, 3)", x.share(-2, 3), -666);
        due.is("share(2, -3)", x.share(2, -3), -666);
        due.is("share(-2, -3)", x.share(-2, -3), 666);
        due.is("share(-1, 1001)", x.share(-1, 1001), 0);
    }

    private static void shareFarthest() {
        due.sentence("1000 times this by that, cut.");
        Tested x = new Tested();
        due.is("share(most, 1)", x.share(MOST, 1), 2147483647000L);
        due.is("share(least, 1)", x.share(LEAST, 1), -2147483648000L);
        due.is("share(least, -1)", x.share(LEAST, -1), 2147483648000L);
        due.is("share(most, -1)", x.share(MOST, -1), -2147483647000L);
        due.is("share(1, most)", x.share(1, MOST), 0);
        due.is("share(least, least)", x.share(LEAST, LEAST), 1000);
        due.is("share(most, least)", x.share(MOST, LEAST), -999);
        due.is("share(2147484, 1): more than an int has room for", x.share(2147484, 1), 2147484000L);
    }

    private static void shareOfNothing() {
        due.sentence("ArithmeticException: that is 0.");
        Tested x = likeTen(1);
        for (int part : of(0, 1, -1, LEAST, MOST)) {
            int thrown = 0;
            try {
                x.share(part, 0);
            } catch (ArithmeticException e) {
                thrown = 1;
                due.yes("not thrown by the machine", !"/ by zero".equals(e.getMessage()));
            }
            due.is("share(" + part + ", 0) throws", thrown, 1);
        }
        due.is("the text stays", x.size(0), 10);
        due.is("share(0, 5) does not", x.share(0, 5), 0);
    }
}
