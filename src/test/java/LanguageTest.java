import java.io.IOException;
import java.lang.reflect.Constructor;
import java.lang.reflect.Field;
import java.lang.reflect.Method;
import java.lang.reflect.Modifier;
import java.nio.file.Files;
import java.nio.file.Path;
import java.util.Arrays;
import java.util.Set;
import java.util.TreeSet;
import java.util.regex.Matcher;
import java.util.regex.Pattern;

/** The rules of LANGUAGE.md that can be seen from the source or from the class itself. */
public final class LanguageTest {
    private static final Path SOURCE = Path.of("src/main/java/SoldWithIt.java");
    private static final String[] BANNED = {
        "\\b(throw|throws|try|catch|finally|synchronized|assert|volatile|native)\\b",
        "->", "::", "\\bpackage\\b", "\\bprotected\\b", "\\bpublic\\b(?! (static )?(final|int|long|SoldWithIt))",
        "\\bstatic \\{", "\\b\\w+Exact\\b", "\\b(hashCode|toString)\\b", "\\bSystem\\.(?!arraycopy\\b)",
        "\\bObject\\b", "\\bThread\\b", "\\bRandom\\b", "\\bfor \\(;;", "\\bwhile \\(true\\)",
        "\\bimport (?!java\\.util\\.(Arrays|ArrayList|List|Iterator);)",
        "\\bArrays\\.(?!(copyOf|copyOfRange|fill)\\b)", "[^\\x00-\\x7f]",
    };
    private static int wrong = 0;

    public static void main(String[] args) throws IOException {
        String code = withoutComments(Files.readString(SOURCE));
        for (String pattern : BANNED) {
            Matcher matcher = Pattern.compile(pattern).matcher(code);
            if (matcher.find()) {
                fail("the source has '" + matcher.group() + "'");
            }
        }
        face();
        nested();
        longMethods(code);
        if (wrong != 0) {
            System.exit(1);
        }
        System.out.println("the language is kept to");
    }

    private static String withoutComments(String source) {
        return source.replaceAll("(?s)/\\*.*?\\*/", "").replaceAll("//[^\n]*", "");
    }

    private static void fail(String what) {
        wrong++;
        System.out.println(what);
    }

    private static void face() {
        Set<String> seen = new TreeSet<>();
        Set<String> hidden = new TreeSet<>();
        for (Method m : SoldWithIt.class.getDeclaredMethods()) {
            if (Modifier.isPublic(m.getModifiers())) {
                seen.add(m.getReturnType() + " " + m.getName() + Arrays.toString(m.getParameterTypes()));
            } else {
                hidden.add(m.getName());
                if (!Modifier.isPrivate(m.getModifiers())) {
                    fail(m + " is neither public nor private");
                }
            }
        }
        for (String name : FACE) {
            String[] parts = name.split("/");
            String[] types = new String[Integer.parseInt(parts[1])];
            Arrays.fill(types, "int");
            String due = (parts[0].equals("digest") ? "long " : "int ") + parts[0] + Arrays.toString(types);
            if (!seen.remove(due)) {
                fail("not in the face: " + due);
            }
            if (hidden.contains(parts[0])) {
                fail("a private method bears the name of a public one: " + parts[0]);
            }
        }
        if (!seen.isEmpty()) {
            fail("too many in the face: " + seen);
        }
        for (Field f : SoldWithIt.class.getDeclaredFields()) {
            boolean constant = Set.of("NONE", "BAD", "NOT", "FULL").contains(f.getName());
            if (Modifier.isPrivate(f.getModifiers()) == constant) {
                fail("as seen from outside: " + f);
            }
        }
        for (Constructor<?> c : SoldWithIt.class.getDeclaredConstructors()) {
            if (!Modifier.isPublic(c.getModifiers()) || c.getParameterCount() != 0) {
                fail("not the constructor: " + c);
            }
        }
        if (!Modifier.isFinal(SoldWithIt.class.getModifiers())) {
            fail("the class is not final");
        }
    }

    private static void nested() {
        Class<?>[] classes = SoldWithIt.class.getDeclaredClasses();
        if (classes.length + 1 > 12) {
            fail("too many classes: " + classes.length);
        }
        for (Class<?> c : classes) {
            if (!Modifier.isStatic(c.getModifiers()) || Modifier.isPublic(c.getModifiers())) {
                fail("not a static class inside: " + c);
            }
            int fields = 0;
            for (Field f : c.getDeclaredFields()) {
                boolean still = Modifier.isStatic(f.getModifiers());
                fields += still ? 0 : 1;
                if (still && !Modifier.isFinal(f.getModifiers())) {
                    fail("a static field that is not final: " + f);
                }
            }
            if (fields > 20) {
                fail("too many fields in " + c + ": " + fields);
            }
            for (Method m : c.getDeclaredMethods()) {
                if (m.getParameterCount() > 7) {
                    fail("too many parameters: " + m);
                }
            }
        }
    }

    /** A method begins with a line that ends in "{" at one or two steps in, and ends likewise. */
    private static void longMethods(String code) {
        String[] lines = code.split("\n");
        for (String in : new String[] {"    ", "        "}) {
            int from = -1;
            for (int i = 0; i < lines.length; i++) {
                boolean head = lines[i].startsWith(in) && !lines[i].startsWith(in + " ") && lines[i].endsWith(") {");
                from = head ? i : from;
                if (lines[i].equals(in + "}") && from >= 0) {
                    if (i - from > 60) {
                        fail("a long method: " + lines[from]);
                    }
                    from = -1;
                }
            }
        }
    }

    private static final String[] FACE = {
        "type/2", "wipe/1", "fault/1", "house/2", "person/2", "law/2", "sale/2", "read/1", "undo/0",
        "whose/2", "keeper/2", "sold/2", "length/1",
        "worth/3", "like/3", "gain/1", "best/2", "rest/1", "out/1",
        "value/2", "change/2", "changes/0", "should/1", "come/2", "invite/2",
        "fact/2", "forget/0", "were/1", "bed/0",
        "sheet/3", "lose/1", "put/4", "get/3", "copy/5", "write/1", "count/1", "digest/0",
    };
}
