import java.io.IOException;
import java.lang.reflect.Constructor;
import java.lang.reflect.Field;
import java.lang.reflect.Method;
import java.lang.reflect.Modifier;
import java.nio.file.Files;
import java.nio.file.Path;
import java.util.Arrays;
import java.util.Set;
import java.util.TreeSet;

/** The document's face, and those rules of LANGUAGE.md that can be seen without reading the program. */
public final class FaceTest {
    private static final Due due = new Due();
    private static final String[] FACE = {"int clear()", "int add(int)", "int fill(int,int,int)", "int size(int)",
        "int octet(int,int)", "int filter(int,int)", "int packer(int)", "int forget()", "int chains()",
        "int chain(int,int)", "int choose(int,int)", "int told(int)", "int learn()", "int feature()",
        "int learned(int)", "long share(int,int)", "int pack(int)", "int alter(int,int)", "int cut(int)",
        "int unpack()", "int place()"};
    /** What the interface says ahead of calls, and those calls. */
    private static final String[][] SECTIONS = {
        {"the text", "clear", "add", "fill", "size", "octet"},
        {"chains", "filter", "packer", "forget", "chains", "chain"},
        {"choosing", "choose", "told", "learn", "feature", "learned", "share"},
        {"packed", "pack", "alter", "cut", "unpack", "place"}};

    public static void main(String[] args) throws IOException {
        members();
        exceptions();
        nested();
        words();
        sections();
        due.end();
    }

    private static void members() {
        due.promise("the face");
        Class<?> c = ChainChoice.class;
        due.yes("public and final", Modifier.isPublic(c.getModifiers()) && Modifier.isFinal(c.getModifiers()));
        Set<String> found = new TreeSet<>();
        Set<String> names = new TreeSet<>();
        for (Method m : c.getDeclaredMethods()) {
            if (Modifier.isPublic(m.getModifiers())) {
                String parts = Arrays.toString(m.getParameterTypes());
                found.add(m.getReturnType() + " " + m.getName() + "("
                    + parts.substring(1, parts.length() - 1).replace(" ", "") + ")");
                names.add(m.getName());
            }
        }
        due.yes("methods " + found, found.equals(new TreeSet<>(Arrays.asList(FACE))));
        for (Method m : c.getDeclaredMethods()) {
            boolean open = Modifier.isPublic(m.getModifiers());
            due.yes(m.getName() + " is public or private", open || Modifier.isPrivate(m.getModifiers()));
            due.yes(m.getName() + " has a name of its own", open || !names.contains(m.getName()));
        }
        Constructor<?>[] constructors = c.getDeclaredConstructors();
        due.is("how many constructors", constructors.length, 1);
        for (Constructor<?> one : constructors) {
            due.yes("a public one of nothing", one.getParameterCount() == 0 && Modifier.isPublic(one.getModifiers()));
        }
        for (Field f : c.getDeclaredFields()) {
            boolean told = Arrays.asList("BAD", "FULL", "NO").contains(f.getName());
            due.yes(f.getName(), told ? Modifier.isPublic(f.getModifiers()) : Modifier.isPrivate(f.getModifiers()));
            due.yes(f.getName() + ", static only if final",
                !Modifier.isStatic(f.getModifiers()) || Modifier.isFinal(f.getModifiers()));
        }
    }

    private static void exceptions() {
        due.promise("the face, what it throws");
        for (Method m : ChainChoice.class.getDeclaredMethods()) {
            String told = m.getName().equals("share") ? "[class java.lang.ArithmeticException]" : "[]";
            due.yes(m.getName() + " throws " + told, Arrays.toString(m.getExceptionTypes()).equals(told));
        }
    }

    private static void nested() {
        due.promise("classes inside");
        Class<?>[] inside = ChainChoice.class.getDeclaredClasses();
        due.yes("twelve classes at most", inside.length <= 11);
        for (Class<?> c : inside) {
            due.yes(c.getName() + " is static", Modifier.isStatic(c.getModifiers()));
            due.yes(c.getName() + " has few fields", c.getDeclaredFields().length <= 20);
            for (Method m : c.getDeclaredMethods()) {
                due.yes(m.getName() + " has few parameters", m.getParameterCount() <= 7);
            }
        }
    }

    private static void words() throws IOException {
        due.promise("LANGUAGE.md");
        String source = Files.readString(Path.of("src/main/java/ChainChoice.java"));
        String[] none = {"->", "::", "finally", "synchronized", "assert ", "catch", "package ", "Exact(", "instanceof",
            "System.out", "System.nano", "System.current", "Random", "Thread"};
        for (String word : none) {
            due.yes("no " + word, !source.contains(word));
        }
        for (String line : source.split("\n")) {
            if (line.startsWith("import ")) {
                due.yes(line, line.equals("import java.util.Arrays;"));
            }
        }
    }

    private static void sections() throws IOException {
        due.promise("ahead of the calls");
        String source = Files.readString(Path.of("src/main/java/ChainChoice.java"));
        for (String[] section : SECTIONS) {
            int head = source.indexOf("// ---- " + section[0] + "\n");
            int end = source.indexOf("// ---- ", head + 1);
            due.yes(section[0], head >= 0 && end > head);
            for (int i = 1; i < section.length; i++) {
                int call = source.indexOf(" " + section[i] + "(", source.indexOf("public ", head));
                due.yes(section[i] + " under " + section[0], call > head && call < end);
            }
        }
    }
}
