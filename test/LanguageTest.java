import java.io.IOException;
import java.lang.reflect.Constructor;
import java.lang.reflect.Field;
import java.lang.reflect.Method;
import java.lang.reflect.Modifier;
import java.nio.charset.StandardCharsets;
import java.nio.file.Files;
import java.nio.file.Path;
import java.util.Arrays;
import java.util.List;
import java.util.TreeSet;
import java.util.regex.Matcher;
import java.util.regex.Pattern;

/** The face of the class, and the rules of ../shared/LANGUAGE.md that a look at the file can test. Run in the project's folder. */
public final class LanguageTest {
    private static final Check check = new Check("LanguageTest");
    private static final List<String> FACE = Arrays.asList(
            "int setRoom(int)", "int setBound(int)", "int newPage()", "int free(int)", "int layAnew(int)", "int layAllAnew()",
            "int write(int,int,int,int)", "int fill(int,int,int)", "int add(int,int,int)", "int copy(int,int,int,int)",
            "int look(int,int,int)", "int count(int)", "int peek(int,int,int)", "int page(int,int)", "int line(int,int,int)",
            "int lines(int)", "int hint(int,int)", "int equalLines(int,int)", "int ifWritten(int,int,int,int)",
            "int ifRoom(int)", "int loosest()", "int rawPagesLeft()", "int type(int)", "int clearText()", "int syntaxError()",
            "int readLines()", "int undo()", "long digest()");

    public static void main(String[] args) throws IOException {
        face();
        words();
        check.end();
    }

    private static void face() {
        Class<?> face = SqueezedLines.class;
        check.due("the class is public and final", face.getModifiers(), Modifier.PUBLIC | Modifier.FINAL);
        TreeSet<String> publicMethods = new TreeSet<>();
        TreeSet<String> names = new TreeSet<>();
        for (Method method : face.getDeclaredMethods()) {
            if (Modifier.isPublic(method.getModifiers())) {
                publicMethods.add(signature(method));
                names.add(method.getName());
            }
        }
        check.due("the public methods " + publicMethods, publicMethods.equals(new TreeSet<>(FACE)) ? 1 : 0, 1);
        for (Method method : face.getDeclaredMethods()) {
            if (!Modifier.isPublic(method.getModifiers())) {
                check.due(method + " is private", Modifier.isPrivate(method.getModifiers()) ? 1 : 0, 1);
                check.due(method + " bears the name of a public one", names.contains(method.getName()) ? 1 : 0, 0);
            }
            check.due(method + " takes at most seven parameters", method.getParameterCount() <= 7 ? 1 : 0, 1);
        }
        for (Field field : face.getDeclaredFields()) {
            boolean isConstant = Modifier.isPublic(field.getModifiers()) && Modifier.isStatic(field.getModifiers())
                    && Modifier.isFinal(field.getModifiers());
            check.due(field + " is private or a constant", isConstant || Modifier.isPrivate(field.getModifiers()) ? 1 : 0, 1);
        }
        Constructor<?>[] constructors = face.getDeclaredConstructors();
        check.due("the constructors", constructors.length, 1);
        check.due("the constructor is public", constructors[0].getModifiers(), Modifier.PUBLIC);
        check.due("the parameters of the constructor", constructors[0].getParameterCount(), 0);
        for (Class<?> inside : face.getDeclaredClasses()) {
            check.due(inside + " is static", Modifier.isStatic(inside.getModifiers()) ? 1 : 0, 1);
            check.due(inside + " is public or protected",
                    inside.getModifiers() & (Modifier.PUBLIC | Modifier.PROTECTED), 0);
        }
    }

    private static String signature(Method method) {
        StringBuilder text = new StringBuilder();
        text.append(method.getReturnType()).append(' ').append(method.getName()).append('(');
        for (Class<?> type : method.getParameterTypes()) {
            text.append(text.charAt(text.length() - 1) == '(' ? "" : ",").append(type);
        }
        return text.append(')').toString();
    }

    private static void words() throws IOException {
        Path file = Path.of("src/main/java/SqueezedLines.java");
        String source = new String(Files.readAllBytes(file), StandardCharsets.UTF_8);
        check.due("signs above 126", source.chars().filter(sign -> sign > 126).count(), 0);
        String code = source.replaceAll("(?s)/\\*.*?\\*/", " ").replaceAll("//[^\n]*", " ");
        Matcher word = Pattern.compile("\\b(throw|throws|try|catch|synchronized|assert|package|native|volatile|transient"
                + "|instanceof|Object|equals|hashCode|toString|System\\.(?!arraycopy)\\w+|Thread|Random|\\w+Exact)\\b|->|::")
                .matcher(code);
        while (word.find()) {
            check.due("the word " + word.group(), 1, 0);
        }
        Matcher imported = Pattern.compile("import ([^;]*);").matcher(code);
        while (imported.find()) {
            check.due("import " + imported.group(1), imported.group(1).equals("java.util.Arrays") ? 1 : 0, 1);
        }
    }
}
