import java.io.IOException;
import java.lang.reflect.Constructor;
import java.lang.reflect.Field;
import java.lang.reflect.Member;
import java.lang.reflect.Method;
import java.lang.reflect.Modifier;
import java.nio.file.Files;
import java.nio.file.Path;
import java.util.Arrays;
import java.util.List;
import java.util.Set;
import java.util.TreeSet;
import java.util.stream.Collectors;

/** The public face and those rules of ../shared/LANGUAGE.md that can be seen from outside or by words. */
public final class LanguageTest {
    private static final Due DUE = new Due();
    private static final Path SOURCE = Path.of("src/main/java/TaperedNumbers.java");
    private static final List<String> FACE = List.of("back(int):int", "between(int,int,int,int):int", "bit(int):int",
        "both(int,int,int,int,int):int", "clear():boolean", "count(int):int", "feed(int,int,int,int,int):int",
        "fused(int,int,int,int,int):int", "hold(int):boolean", "let(int,int):int", "near(int,int,int,int,int):long",
        "off(int,int,int,int,int):int", "order(int,int,int,int):int", "pairs(int,int,int):int", "place():int",
        "quotient(int,int,int,int):int", "raised(int,int,int,int):int", "read():int", "resize(int,int):boolean",
        "restore(int):boolean", "root(int,int,int):int", "row(int,int,int,int):int", "steps(int,int,int,int,int):int",
        "store(int,int,boolean):boolean", "stored(int,int):int", "turned(int,int,int,int,int):int", "undo():boolean",
        "written(int,int,int,int):int");
    private static final List<String> NO_WORDS = List.of("throw", "throws", "try", "catch", "synchronized", "assert", "->", "::",
        "Exact(", "toString", "hashCode", "equals(", "package", "protected", "volatile", "Object", "System.out", "double", "float");

    public static void main(String[] args) throws IOException {
        face();
        words(Files.readAllLines(SOURCE));
        lengths(Files.readAllLines(SOURCE));
        DUE.end();
    }

    private static void face() {
        Class<?> type = TaperedNumbers.class;
        DUE.yes("public and final", Modifier.isPublic(type.getModifiers()) && Modifier.isFinal(type.getModifiers()));
        Set<String> told = new TreeSet<>();
        Set<String> hidden = new TreeSet<>();
        for (Method method : type.getDeclaredMethods()) {
            (isHidden(method) ? hidden : told).add(isHidden(method) ? method.getName() : signature(method));
        }
        DUE.yes("methods " + told, told.equals(new TreeSet<>(FACE)));
        for (Class<?> one : type.getDeclaredClasses()) {
            Arrays.stream(one.getDeclaredMethods()).map(Method::getName).forEach(hidden::add);
        }
        hidden.retainAll(FACE.stream().map(f -> f.substring(0, f.indexOf('('))).collect(Collectors.toSet()));
        DUE.yes("private ones with a public name " + hidden, hidden.isEmpty());
        for (Field field : type.getDeclaredFields()) {
            DUE.yes("field " + field, isHidden(field) || field.getName().equals("NONE"));
        }
        Constructor<?>[] made = type.getDeclaredConstructors();
        DUE.yes("one constructor", made.length == 1 && made[0].getParameterCount() == 0 && Modifier.isPublic(made[0].getModifiers()));
        Class<?>[] inside = type.getDeclaredClasses();
        DUE.yes("twelve classes at most", inside.length < 12);
        for (Class<?> one : inside) {
            DUE.yes("static " + one, Modifier.isStatic(one.getModifiers()));
            fields(one);
        }
        fields(type);
    }

    private static void fields(Class<?> type) {
        long own = Arrays.stream(type.getDeclaredFields()).filter(f -> !Modifier.isStatic(f.getModifiers())).count();
        DUE.yes("twenty fields at most: " + type + " " + own, own <= 20);
        for (Field field : type.getDeclaredFields()) {
            boolean constant = Modifier.isFinal(field.getModifiers()) || !Modifier.isStatic(field.getModifiers());
            DUE.yes("static ones are final: " + field, constant);
        }
    }

    private static boolean isHidden(Member member) {
        return Modifier.isPrivate(member.getModifiers());
    }

    private static String signature(Method method) {
        String parameters = Arrays.stream(method.getParameterTypes()).map(Class::getName).collect(Collectors.joining(","));
        return method.getName() + "(" + parameters + "):" + method.getReturnType().getName();
    }

    private static void words(List<String> lines) {
        for (int i = 0; i < lines.size(); i++) {
            String line = lines.get(i).replaceAll("//.*", "");
            if (line.strip().startsWith("*") || line.strip().startsWith("/*")) {
                continue;
            }
            for (String word : NO_WORDS) {
                boolean there = Character.isLetter(word.charAt(0)) ? line.matches(".*\\b\\Q" + word + "\\E.*") : line.contains(word);
                DUE.no("line " + (i + 1) + " has " + word, there);
            }
            DUE.yes("line " + (i + 1) + " imports", !line.startsWith("import") || line.equals("import java.util.Arrays;"));
            DUE.yes("line " + (i + 1) + " is long", line.length() <= 120);
        }
    }

    /** A method begins at one of two margins and ends at the brace below. */
    private static void lengths(List<String> lines) {
        int begin = -1;
        String margin = "";
        for (int i = 0; i < lines.size(); i++) {
            String line = lines.get(i);
            if (line.matches("( {4}| {8})[a-zA-Z].*\\) \\{") && !line.contains("class ")) {
                begin = i;
                margin = line.startsWith("        ") ? "        " : "    ";
            } else if (begin >= 0 && line.equals(margin + "}")) {
                DUE.yes("method at line " + (begin + 1) + " is long", i - begin < 60);
                begin = -1;
            }
        }
    }
}
