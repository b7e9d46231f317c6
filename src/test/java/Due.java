import java.io.IOException;
import java.nio.file.Files;
import java.nio.file.Path;
import java.util.Arrays;

/** Compares answers with those that are due, and helps the tests to set texts and OUT. */
final class Due {
    private static final String DOCUMENT = document();

    private int wrong = 0;
    private int checks = 0;
    private String topic = "";

    void promise(String name) {
        topic = name;
    }

    /** The sentence of the document that the next answers hold; it must stand there in these words. */
    void sentence(String words) {
        topic = words;
        yes("the document's words", DOCUMENT.isEmpty() || DOCUMENT.contains(words));
    }

    /** The document on one line, or nothing where it does not lie beside the project. */
    private static String document() {
        Path path = Path.of("../shared/DOC.md");
        try {
            return Files.exists(path) ? Files.readString(path).replaceAll("\\s+", " ") : "";
        } catch (IOException e) {
            return "";
        }
    }

    void is(String call, long got, long want) {
        checks++;
        if (got != want) {
            wrong++;
            System.out.println(topic + ": " + call + " answered " + got + ", due is " + want);
        }
    }

    void row(String what, Tested x, int which, int... want) {
        same(what, row(x, which), want);
    }

    void same(String what, int[] got, int... want) {
        checks++;
        if (!Arrays.equals(got, want)) {
            wrong++;
            System.out.println(topic + ": " + what + " is " + Arrays.toString(got)
                + ", due is " + Arrays.toString(want));
        }
    }

    void yes(String what, boolean holds) {
        is(what, holds ? 1 : 0, 1);
    }

    /** Ends the test: exit code 1 if there was a wrong answer. */
    void end() {
        System.out.println(checks + " answers, " + wrong + " not as due");
        if (wrong != 0 || checks == 0) {
            System.exit(1);
        }
    }

    static int[] row(Tested x, int which) {
        int[] bytes = new int[x.size(which)];
        for (int i = 0; i < bytes.length; i++) {
            bytes[i] = x.octet(which, i);
        }
        return bytes;
    }

    /** A new object whose text is these bytes. */
    static Tested of(int... bytes) {
        Tested x = new Tested();
        put(x, bytes);
        return x;
    }

    static void put(Tested x, int... bytes) {
        for (int b : bytes) {
            x.add(b);
        }
    }

    /** A new object whose text is 9 9 9 and whose OUT is these bytes (304 at most). */
    static Tested withOut(int... bytes) {
        Tested x = new Tested();
        for (int i = 4; i < bytes.length; i++) {
            x.add(bytes[i]);
        }
        x.pack(0);
        for (int i = 0; i < bytes.length && i < 4; i++) {
            x.alter(i, bytes[i]);
        }
        x.cut(bytes.length);
        x.clear();
        put(x, 9, 9, 9);
        return x;
    }

    /** OUT of these bytes is read to this text. */
    void reads(int[] out, int... text) {
        Tested x = withOut(out);
        is("unpack() of " + Arrays.toString(out), x.unpack(), text.length);
        row("the text of " + Arrays.toString(out), x, 0, text);
        is("place()", x.place(), ChainChoice.NO);
        row("OUT behind it", x, 1, out);
    }

    /** OUT of these bytes has this FAULT there, and the text stays. */
    void faulty(int fault, int place, int... out) {
        Tested x = withOut(out);
        is("unpack() of " + Arrays.toString(out), x.unpack(), -10 - fault);
        is("place() of " + Arrays.toString(out), x.place(), place);
        row("the text", x, 0, 9, 9, 9);
        row("OUT", x, 1, out);
    }
}
