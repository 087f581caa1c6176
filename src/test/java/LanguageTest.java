import java.io.IOException;
import java.lang.reflect.Constructor;
import java.lang.reflect.Field;
import java.lang.reflect.Method;
import java.lang.reflect.Modifier;
import java.nio.file.Files;
import java.nio.file.Path;
import java.util.Set;
import java.util.TreeSet;

/** The rules of LANGUAGE.md that a program can look for. */
public final class LanguageTest {
    private static final Dues T = new Dues();
    private static final Set<String> FACE = Set.of(
        "int boxes(int)", "int looks(int)", "int lay(int)", "int swap(int,int)", "int empty(int)", "int box(int,int)",
        "int rings(int)", "int feed(int,long)", "int text()", "int force(int)", "int bet()", "int plan(int,int)",
        "int next(int,int,int,int)", "int found(int,int)", "int run(int,int)", "long closed(int,int)",
        "long wins(int,int)", "long mean(int,int)", "int worst(int,int)", "int draws(int)", "long costs(int)",
        "int help(int)", "int enough(int,int)", "int order(int,int)", "int image()", "int back()", "int count(int)",
        "int sheet(int,int,int)", "int cell(int,int,int)", "int copy(int,int,int,int,int)",
        "int plans(int,int,int,int)", "int taken(int,int)");

    public static void main(String[] args) throws IOException {
        words();
        face();
        for (Class<?> inside : HundredBoxes.class.getDeclaredClasses()) {
            inside(inside);
        }
        T.end();
    }

    private static void words() throws IOException {
        String source = Files.readString(Path.of("src/main/java/HundredBoxes.java"));
        String code = source.replaceAll("(?s)/\\*.*?\\*/", " ").replaceAll("//[^\n]*", " ").replaceAll("\"[^\"\n]*\"", "\"\"");
        for (String word : new String[] {"throw", "throws", "try", "catch", "finally", "synchronized", "assert", "import",
            "package", "equals", "hashCode", "toString", "Object", "System\\.(?!arraycopy)", "Random", "Thread"}) {
            boolean there = java.util.regex.Pattern.compile("\\b" + word + (word.endsWith(")") ? "" : "\\b")).matcher(code).find();
            T.due("the source has " + word, there ? 1 : 0, 0);
        }
        T.due("the source has ->", code.contains("->") ? 1 : 0, 0);
        T.due("the source has ::", code.contains("::") ? 1 : 0, 0);
        T.due("signs beyond 127", source.chars().filter(c -> c > 127).count(), 0);
    }

    private static void face() {
        Set<String> seen = new TreeSet<>();
        for (Method method : HundredBoxes.class.getDeclaredMethods()) {
            String told = method.getReturnType() + " " + method.toString().replaceAll(".*\\.(\\w+\\(.*)", "$1");
            if (Modifier.isPublic(method.getModifiers())) {
                seen.add(told);
            } else {
                T.due("private: " + told, Modifier.isPrivate(method.getModifiers()) ? 1 : 0, 1);
                boolean like = FACE.stream().anyMatch(f -> f.matches("\\w+ " + method.getName() + "\\(.*"));
                T.due("a private one named as a public one: " + told, like ? 1 : 0, 0);
            }
            T.due("parameters of " + told, method.getParameterCount() > 7 ? 1 : 0, 0);
        }
        T.due("the face is whole: " + seen, seen.equals(FACE) ? 1 : 0, 1);
        Set<String> constants = new TreeSet<>();
        for (Field field : HundredBoxes.class.getDeclaredFields()) {
            if (Modifier.isPublic(field.getModifiers())) {
                constants.add(field.getName());
            } else {
                T.due("private: " + field, Modifier.isPrivate(field.getModifiers()) ? 1 : 0, 1);
            }
            staticIsFinal(field);
        }
        T.due("constants", constants.equals(Set.of("NONE", "BAD", "STATE", "FULL", "NO")) ? 1 : 0, 1);
        Constructor<?>[] made = HundredBoxes.class.getDeclaredConstructors();
        T.due("constructors", made.length, 1);
        T.due("final", Modifier.isFinal(HundredBoxes.class.getModifiers()) ? 1 : 0, 1);
        T.due("classes", HundredBoxes.class.getDeclaredClasses().length > 11 ? 1 : 0, 0);
    }

    private static void staticIsFinal(Field field) {
        int m = field.getModifiers();
        T.due("static and not final: " + field, Modifier.isStatic(m) && !Modifier.isFinal(m) ? 1 : 0, 0);
    }

    private static void inside(Class<?> inside) {
        int m = inside.getModifiers();
        T.due("static: " + inside, Modifier.isStatic(m) ? 1 : 0, 1);
        T.due("hidden: " + inside, Modifier.isPublic(m) || Modifier.isProtected(m) ? 1 : 0, 0);
        for (Field field : inside.getDeclaredFields()) {
            staticIsFinal(field);
        }
        for (Method method : inside.getDeclaredMethods()) {
            boolean like = FACE.stream().anyMatch(f -> f.matches("\\w+ " + method.getName() + "\\(.*"));
            T.due("named as a public one: " + method, like ? 1 : 0, 0);
        }
    }
}
