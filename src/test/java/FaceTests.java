import java.lang.reflect.Constructor;
import java.lang.reflect.Executable;
import java.lang.reflect.Field;
import java.lang.reflect.Method;
import java.lang.reflect.Modifier;
import java.nio.file.Files;
import java.nio.file.Path;
import java.util.Arrays;
import java.util.List;
import java.util.Set;
import java.util.TreeSet;
import java.util.regex.Matcher;
import java.util.regex.Pattern;

/** The public face, as the document has it, and those rules of LANGUAGE.md that a program can look for. */
public final class FaceTests {
    private static final String[] FACE = {
        "int cls(int,int)", "int face(int,int)", "int variable(int,int)", "int member(int,int,int,int,int,int)", "int says(int,int)",
        "int way(int,int)", "int below(int,int)", "int scan(int)", "int broken(int)", "int entry(int,int)", "int tally(int,int,int)",
        "int offer(int)", "int hold(int,int,int)", "int make(int)", "int of(int,int)", "int slot(int,int)", "int kind(int,int,int)",
        "int row(int,int,int)", "int inner(int,int,int,int)", "int drop(int,int)", "int size(int,int,int)", "long get(int,int,int,int)",
        "int set(int,int,int,int,long)", "int link(int,int,int,int,int)", "long as(int,int,int,int)", "long wide(int,int,int,int)",
        "int copy(int,int,int,int,int,int,int)", "int follow(int,int,int)", "int twin(int)", "int alike(int,int)", "int find(int,long)",
        "int column(int,int,int)", "long cell(int)", "long fold(int)", "long at(int,int,long)", "int list(int,int,int)",
        "int stand(int,int,int)", "int board(int,int)", "int trial(int,int)", "int fault()", "int told(int)"
    };
    private static final Set<String> CONSTANTS = Set.of("UNKNOWN=-1", "OUTSIDE=-2", "STATE=-3", "FULL=-4", "NONE=-9");
    private static final List<String> STATIC_TYPES = List.of("int", "long", "boolean", "char", "java.lang.String", "[I", "[J", "[C", "[B");
    private static final String[] NOT_IN_SOURCE = {
        "\\bthrow\\b", "\\btry\\b", "\\bcatch\\b", "\\bfinally\\b", "\\bsynchronized\\b", "\\bassert\\b", "\\bdouble\\b", "\\bfloat\\b",
        "\\bDouble\\b", "\\bFloat\\b", "\\bSystem\\.(?!arraycopy)", "->", "::", "Exact\\b", "\\bnative\\b", "\\bvolatile\\b", "\\brecord\\b"
    };

    private static int wrong;

    private FaceTests() {
    }

    public static void main(String[] args) throws Exception {
        face();
        constants();
        for (Class<?> type : allTypes()) {
            shape(type);
        }
        due("at most some twelve classes", allTypes().size() <= 12);
        source();
        System.out.println(wrong == 0 ? "face: as the document and LANGUAGE.md have it" : "face: " + wrong + " are wrong");
        if (wrong != 0) {
            System.exit(1);
        }
    }

    private static void due(String what, boolean holds) {
        if (!holds) {
            wrong++;
            System.out.println("face: not so: " + what);
        }
    }

    private static List<Class<?>> allTypes() {
        List<Class<?>> types = new java.util.ArrayList<>(Arrays.asList(MemberScanner.class.getDeclaredClasses()));
        types.add(MemberScanner.class);
        return types;
    }

    private static void face() {
        Set<String> open = new TreeSet<>();
        Set<String> openNames = new TreeSet<>();
        for (Method method : MemberScanner.class.getDeclaredMethods()) {
            if (!Modifier.isPrivate(method.getModifiers())) {
                due(method + " is public, not static", method.getModifiers() == Modifier.PUBLIC);
                openNames.add(method.getName());
                StringBuilder text = new StringBuilder(method.getReturnType() + " " + method.getName() + "(");
                for (Class<?> parameter : method.getParameterTypes()) {
                    text.append(text.charAt(text.length() - 1) == '(' ? "" : ",").append(parameter);
                }
                open.add(text.append(')').toString());
            }
        }
        due("the methods of the document and no other: " + open, open.equals(new TreeSet<>(Arrays.asList(FACE))));
        for (Class<?> type : allTypes()) {
            for (Method method : type.getDeclaredMethods()) {
                boolean isFace = type == MemberScanner.class && Modifier.isPublic(method.getModifiers());
                due(method + " does not bear the name of a public one", isFace || !openNames.contains(method.getName()));
            }
        }
        Constructor<?>[] constructors = MemberScanner.class.getDeclaredConstructors();
        due("one constructor", constructors.length == 1 && constructors[0].getModifiers() == Modifier.PUBLIC);
        due("without parameters", constructors[0].getParameterCount() == 0);
        due("the class is public and final", MemberScanner.class.getModifiers() == (Modifier.PUBLIC | Modifier.FINAL));
    }

    private static void constants() throws Exception {
        Set<String> open = new TreeSet<>();
        for (Field field : MemberScanner.class.getDeclaredFields()) {
            if (!Modifier.isPrivate(field.getModifiers())) {
                due(field + " is public static final int", field.toString().startsWith("public static final int "));
                open.add(field.getName() + "=" + field.getInt(null));
            }
        }
        due("the constants of the document and no other: " + open, open.equals(new TreeSet<>(CONSTANTS)));
    }

    private static void shape(Class<?> type) {
        int fields = 0;
        for (Field field : type.getDeclaredFields()) {
            if (Modifier.isStatic(field.getModifiers())) {
                due(field + " is final", Modifier.isFinal(field.getModifiers()));
                due(field + " is a constant", STATIC_TYPES.contains(field.getType().getName()));
            } else {
                fields++;
            }
        }
        due(type + " has some twenty fields", fields <= 20);
        for (Method method : type.getDeclaredMethods()) {
            parameters(method);
        }
        for (Constructor<?> constructor : type.getDeclaredConstructors()) {
            parameters(constructor);
        }
        if (type != MemberScanner.class) {
            due(type + " is static and not open", Modifier.isStatic(type.getModifiers()) && Modifier.isPrivate(type.getModifiers()));
            due(type + " has no class inside", type.getDeclaredClasses().length == 0);
        }
    }

    private static void parameters(Executable executable) {
        due(executable + " takes at most seven parameters", executable.getParameterCount() <= 7);
    }

    private static void source() throws Exception {
        Path file = Path.of(System.getProperty("project", "."), "src", "main", "java", "MemberScanner.java");
        String text = Files.readString(file);
        String code = text.replaceAll("(?s)/\\*.*?\\*/", "").replaceAll("//[^\n]*", "");
        for (String pattern : NOT_IN_SOURCE) {
            due("no " + pattern + " in the source", !Pattern.compile(pattern).matcher(code).find());
        }
        Matcher imports = Pattern.compile("import ([^;]+);").matcher(code);
        while (imports.find()) {
            due("import " + imports.group(1), imports.group(1).equals("java.util.Arrays"));
        }
        Matcher library = Pattern.compile("\\b(Arrays|Math|System|Long|Integer)\\.(\\w+)").matcher(code);
        while (library.find()) {
            due(library.group() + " is in LANGUAGE.md", Set.of("Arrays.fill", "Math.max", "Math.floorMod", "System.arraycopy").contains(library.group()));
        }
        methodsAreShort(code);
    }

    private static void methodsAreShort(String code) {
        Matcher method = Pattern.compile("(?m)^( +)(?:[\\w\\[\\]]+ )+\\w+\\([^)]*\\) \\{\n").matcher(code);
        while (method.find()) {
            int end = code.indexOf("\n" + method.group(1) + "}", method.end() - 1);
            long lines = code.substring(method.start(), end).lines().count() + 1;
            due(method.group().trim() + " has some sixty lines at most: " + lines, lines <= 60);
        }
    }
}
