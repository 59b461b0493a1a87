import java.lang.reflect.Constructor;
import java.lang.reflect.Field;
import java.lang.reflect.Method;
import java.lang.reflect.Modifier;
import java.nio.charset.StandardCharsets;
import java.nio.file.Files;
import java.nio.file.Path;
import java.util.Arrays;
import java.util.Set;
import java.util.TreeSet;
import java.util.regex.Matcher;
import java.util.regex.Pattern;

/** The document's face and no more of it; and what of LANGUAGE.md can be seen by looking at the file. */
public final class FaceTest {
    private static final String FACE = """
        feed(int,int,int,int,int)int end(int)int province()int fault(int)int house(int,int)int sum(int)int comes(int)int
        goes(int)int moves(int,int)int hide(int,int)int steal(int,int)int summer()int undo()boolean redo()boolean
        falses()int will(int,int)int bowls(int)int leave(int)int least()int rounds(int)int noon(int)int missed(int)int
        doubled(int)int seats(int,int,int)int stone(int,int)int loss(int)int draft(int,int)int chase()int
        marks(int,int,int)int lies(int)int report(int,int,int)int untell(int)boolean later(int)int truths(int)int
        range(int,int,int)int liars(int)int knock(int,int)int tells(int,int)int odds(int,int,int,int)int image(int)int
        back(int)int about(int)int
        """;
    private static int wrong;

    private FaceTest() {
    }

    private static void expect(String what, boolean is) {
        if (!is) {
            wrong++;
            System.out.println("not so: " + what);
        }
    }

    private static String written(Method m) {
        StringBuilder s = new StringBuilder(m.getName()).append('(');
        for (Class<?> p : m.getParameterTypes()) {
            s.append(s.charAt(s.length() - 1) == '(' ? "" : ",").append(p.getName());
        }
        return s.append(')').append(m.getReturnType().getName()).toString();
    }

    private static void face() throws ReflectiveOperationException {
        Class<StoneCensus> c = StoneCensus.class;
        expect("public and final", Modifier.isPublic(c.getModifiers()) && Modifier.isFinal(c.getModifiers()));
        Set<String> due = new TreeSet<>(Arrays.asList(FACE.trim().split("\\s+")));
        Set<String> names = new TreeSet<>();
        Set<String> open = new TreeSet<>();
        for (Method m : c.getDeclaredMethods()) {
            if (Modifier.isPublic(m.getModifiers())) {
                open.add(written(m));
                names.add(m.getName());
                expect(m.getName() + " is no static method", !Modifier.isStatic(m.getModifiers()));
            } else {
                expect(m.getName() + " is private", Modifier.isPrivate(m.getModifiers()) || m.isSynthetic());
            }
        }
        expect("the methods are " + due + ", not " + open, due.equals(open));
        for (Method m : c.getDeclaredMethods()) {
            expect(m.getName() + " is no other method's name", Modifier.isPublic(m.getModifiers()) || !names.contains(m.getName()));
        }
        for (Constructor<?> k : c.getDeclaredConstructors()) {
            expect("one public constructor", Modifier.isPublic(k.getModifiers()) && k.getParameterCount() == 0);
        }
        for (Field f : c.getDeclaredFields()) {
            expect(f.getName() + " is private", f.getName().equals("NONE") || Modifier.isPrivate(f.getModifiers()));
            expect(f.getName() + " is final if static", !Modifier.isStatic(f.getModifiers()) || Modifier.isFinal(f.getModifiers()));
        }
        expect("NONE", StoneCensus.NONE == -1 && Modifier.isPublic(c.getField("NONE").getModifiers()));
        within(c, names);
    }

    private static void within(Class<?> c, Set<String> names) {
        Class<?>[] inside = c.getDeclaredClasses();
        expect("some twelve classes", inside.length + 1 <= 12);
        for (Class<?> k : inside) {
            expect(k + " is static and not public", Modifier.isStatic(k.getModifiers())
                && !Modifier.isPublic(k.getModifiers()) && !Modifier.isProtected(k.getModifiers()));
            int fields = 0;
            for (Field f : k.getDeclaredFields()) {
                fields += Modifier.isStatic(f.getModifiers()) ? 0 : 1;
                expect(f + " is final if static", !Modifier.isStatic(f.getModifiers()) || Modifier.isFinal(f.getModifiers()));
            }
            expect(k + " has some twenty fields", fields <= 20);
            for (Method m : k.getDeclaredMethods()) {
                expect(m + " has no name of the face", !names.contains(m.getName()));
                expect(m + " has seven parameters at most", m.getParameterCount() <= 7);
            }
        }
    }

    private static void words() throws java.io.IOException {
        String source = Files.readString(Path.of("src/main/java/StoneCensus.java"), StandardCharsets.ISO_8859_1);
        String bare = source.replaceAll("(?s)/\\*.*?\\*/", " ").replaceAll("//[^\n]*", " ")
            .replaceAll("\"(\\\\.|[^\"\\\\])*\"", "\"\"").replaceAll("'(\\\\.|[^'\\\\])'", "' '");
        for (String word : new String[] {"throw", "throws", "try", "catch", "finally", "synchronized", "assert", "volatile",
            "native", "transient", "var", "package", "yield", "Object", "Thread", "Random", "instanceof"}) {
            expect("no " + word, !Pattern.compile("\\b" + word + "\\b").matcher(bare).find());
        }
        expect("no lambda, no method reference", !bare.contains("->") && !bare.contains("::"));
        expect("characters 1 to 127", source.chars().allMatch(ch -> ch > 0 && ch < 128));
        Matcher imports = Pattern.compile("import ([a-zA-Z.*]+);").matcher(bare);
        while (imports.find()) {
            expect("import " + imports.group(1), imports.group(1).equals("java.util.Arrays"));
        }
        Matcher library = Pattern.compile("\\b(System|Arrays|Integer|Long|Math)\\.(\\w+)").matcher(bare);
        Set<String> allowed = Set.of("System.arraycopy", "Arrays.fill", "Integer.bitCount", "Math.max", "Math.min");
        while (library.find()) {
            expect(library.group(), allowed.contains(library.group()));
        }
        methodsAreShort(bare);
    }

    /** A method begins at its indentation with a brace and ends with the next one there. */
    private static void methodsAreShort(String bare) {
        String[] lines = bare.split("\n");
        for (String indent : new String[] {"    ", "        "}) {
            int start = -1;
            for (int i = 0; i < lines.length; i++) {
                if (lines[i].matches(indent + "[a-zA-Z].*\\) \\{")) {
                    start = i;
                } else if (lines[i].equals(indent + "}") && start >= 0) {
                    expect("line " + (start + 1) + ": a method of some sixty lines", i - start <= 60);
                    start = -1;
                }
            }
        }
    }

    public static void main(String[] args) throws Exception {
        face();
        words();
        System.out.println(wrong + " things not so");
        if (wrong != 0) {
            System.exit(1);
        }
    }
}
