import java.io.IOException;
import java.lang.reflect.Constructor;
import java.lang.reflect.Field;
import java.lang.reflect.Method;
import java.lang.reflect.Modifier;
import java.nio.file.Files;
import java.nio.file.Path;
import java.util.HashSet;
import java.util.Set;
import java.util.TreeSet;
import java.util.regex.Matcher;
import java.util.regex.Pattern;

/** The rules of LANGUAGE.md that can be seen from outside: the face, and words that must not stand there. */
public final class LanguageTest {
    private static final Path SOURCE = Path.of("src/main/java/TreeVersions.java");
    private static final String FACE = """
        int put(int,int,int,int,int)
        int cell(int,int,int,int)
        int drop(int,int)
        int fill(int,int,int,int,int)
        long get(int,int,int)
        int size(int)
        long kth(int,int)
        int rank(int,int)
        long root(int,int)
        int height(int,int)
        int nodes(int,int,int)
        long node(int,int,int,int,int)
        int shared(int,int,int)
        int stored()
        int open(int)
        int go(int)
        int close(int)
        int head(int)
        int commit()
        int parent(int,int)
        int ancestors(int)
        int base(int,int)
        int reset()
        int sweep()
        int diff(int,int,int)
        long diffKey(int)
        int diffKind(int)
        int merge(int)
        int pick(int)
        int undo(int)
        boolean merging()
        int conflicts(int)
        long conflict(int,int)
        long version(int,int,int)
        int settle(int,int)
        int send(int)
        int fetch(int)
        int there(int)
        int kept(int)
        """;
    private static final String[] FORBIDDEN = {"\\bthrow\\b", "\\btry\\b", "\\bcatch\\b", "\\bfinally\\b",
        "\\bsynchronized\\b", "\\bassert\\b", "->", "::", "\\bstatic\\s*\\{", "Exact\\s*\\(", "\\bpackage\\b",
        "\\bSystem\\.(?!arraycopy)", "\\bObject\\b", "\\bprotected\\b", "\\bThread\\b", "\\.equals\\s*\\(",
        "\\bhashCode\\b", "\\btoString\\b", "\\bnew\\s+\\w+\\s*\\([^;{]*\\)\\s*\\{"};

    private static final int MOST_LINES = 60;

    private static int wrong = 0;

    private static void due(String what, boolean holds) {
        if (!holds) {
            wrong++;
            System.out.println("LANGUAGE.md: " + what);
        }
    }

    public static void main(String[] args) throws IOException {
        face();
        insideClasses();
        source(withoutComments(Files.readString(SOURCE)));
        System.out.println(wrong == 0 ? "LanguageTest: the rules are kept" : "LanguageTest: " + wrong + " wrong");
        System.exit(wrong == 0 ? 0 : 1);
    }

    private static void face() {
        Class<?> face = TreeVersions.class;
        due("the class is public and final", (face.getModifiers() & (Modifier.PUBLIC | Modifier.FINAL))
                == (Modifier.PUBLIC | Modifier.FINAL));
        Constructor<?>[] constructors = face.getDeclaredConstructors();
        due("one public constructor without parameters", constructors.length == 1
                && Modifier.isPublic(constructors[0].getModifiers()) && constructors[0].getParameterCount() == 0);
        Set<String> methods = new TreeSet<>();
        for (Method method : face.getDeclaredMethods()) {
            if (!Modifier.isPrivate(method.getModifiers())) {
                methods.add(told(method));
            }
        }
        Set<String> wanted = new TreeSet<>();
        FACE.lines().forEach(wanted::add);
        due("the methods are " + wanted + " and not " + methods, methods.equals(wanted));
        Set<String> constants = new TreeSet<>();
        for (Field field : face.getDeclaredFields()) {
            if (!Modifier.isPrivate(field.getModifiers())) {
                constants.add(field.getType() + " " + field.getName());
            }
            due("static field is final: " + field.getName(), !Modifier.isStatic(field.getModifiers())
                    || Modifier.isFinal(field.getModifiers()));
        }
        due("the constants are not " + constants, constants.equals(Set.of("int NONE", "int FULL", "int BUSY",
                "int DIRTY", "int BAD", "long NOTHING")));
    }

    private static String told(Method method) {
        StringBuilder text = new StringBuilder(method.getReturnType() + " " + method.getName() + "(");
        for (Class<?> type : method.getParameterTypes()) {
            text.append(text.charAt(text.length() - 1) == '(' ? "" : ",").append(type);
        }
        return text.append(")").toString();
    }

    private static void insideClasses() {
        Set<String> publicNames = new HashSet<>();
        for (Method method : TreeVersions.class.getMethods()) {
            publicNames.add(method.getName());
        }
        Class<?>[] inside = TreeVersions.class.getDeclaredClasses();
        due("at most twelve classes", inside.length < 12);
        for (Class<?> one : inside) {
            due("static: " + one, Modifier.isStatic(one.getModifiers()));
            due("not public: " + one, !Modifier.isPublic(one.getModifiers()));
            due("some twenty fields: " + one, one.getDeclaredFields().length <= 22);
            for (Method method : one.getDeclaredMethods()) {
                due("no public name: " + method, !publicNames.contains(method.getName()));
                due("seven parameters: " + method, method.getParameterCount() <= 7);
            }
        }
        for (Method method : TreeVersions.class.getDeclaredMethods()) {
            due("seven parameters: " + method, method.getParameterCount() <= 7);
            due("no private method with a public name: " + method, !Modifier.isPrivate(method.getModifiers())
                    || !publicNames.contains(method.getName()));
        }
    }

    private static String withoutComments(String text) {
        return text.replaceAll("(?s)/\\*.*?\\*/", "").replaceAll("//[^\n]*", "");
    }

    private static void source(String text) {
        for (String forbidden : FORBIDDEN) {
            Matcher found = Pattern.compile(forbidden).matcher(text);
            due("forbidden: " + forbidden, !found.find());
        }
        Matcher imports = Pattern.compile("import\\s+([^;]*);").matcher(text);
        while (imports.find()) {
            due("import of " + imports.group(1),
                    Set.of("java.util.Arrays", "java.util.ArrayList", "java.util.List").contains(imports.group(1)));
        }
        Matcher library = Pattern.compile("\\b(Math|Arrays|Long|Integer)\\.(\\w+)").matcher(text);
        while (library.find()) {
            due("call of " + library.group(), Set.of("max", "min", "abs", "bitCount", "compare", "floorDiv",
                    "floorMod", "fill", "copyOf", "copyOfRange").contains(library.group(2)));
        }
        due("while loops have a counter", !Pattern.compile("\\bwhile\\b").matcher(text).find());
        methodsAreShort(text);
    }

    /** A method begins with a line that ends in ") {" and ends with the next brace that stands as far in. */
    private static void methodsAreShort(String text) {
        Matcher method = Pattern.compile("(?ms)^((?: {4}){1,2})(?=\\S)([^\n]*\\) \\{)$(.*?)^\\1\\}$").matcher(text);
        int count = 0;
        while (method.find()) {
            count++;
            long lines = method.group(3).lines().count();
            due("some sixty lines: " + method.group(2) + " has " + lines, lines <= MOST_LINES);
        }
        due("the methods are found", count >= FACE.lines().count());
    }
}
