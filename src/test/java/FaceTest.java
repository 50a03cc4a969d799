import java.io.IOException;
import java.lang.reflect.Field;
import java.lang.reflect.Member;
import java.lang.reflect.Method;
import java.lang.reflect.Modifier;
import java.nio.file.Files;
import java.nio.file.Path;
import java.util.Arrays;
import java.util.Set;
import java.util.TreeSet;
import java.util.regex.Pattern;

/** The public face of the document, and what the language leaves out. */
public final class FaceTest {
    private static final String[] METHODS = {
        "int number(int,long)", "int lot(int,int,int,int)", "int empty(int)", "int holds(int)", "long value(int)",
        "int cell(int,int)", "int history(int,int)", "long stock(int,int)", "int step(int,int,int,int)", "int drop(int)",
        "int clash(int,int)", "int rule(int,int,int,long)", "int submit(int)", "int window(int)", "int run(int)",
        "int ticket(int,int)", "long answer(int,int)", "int tried(int,int)", "int way(int,int,int)", "int read(int,int)",
        "int woken(int,int)", "int order(int)", "int note(int,int)", "long noted(int)", "int count(int)", "long digest()",
    };
    private static final String[] LEFT_OUT = {
        "\\b(throws?|try|catch|synchronized|assert|import|package|protected|Object)\\b", "\\w+Exact\\b", "->", "::",
    };
    private static final Due due = new Due();

    public static void main(String[] args) throws IOException {
        constants();
        members();
        wordsLeftOut();
        boundsOfTheLanguage();
        due.end();
    }

    private static void constants() {
        due.is("NONE", SeedExchange.NONE, -1);
        due.is("BAD", SeedExchange.BAD, -2);
        due.is("FULL", SeedExchange.FULL, -3);
        due.is("NOT", SeedExchange.NOT, -4);
    }

    private static String textOf(Method method) {
        StringBuilder text = new StringBuilder(method.getReturnType().getName()).append(' ').append(method.getName()).append('(');
        String between = "";
        for (Class<?> type : method.getParameterTypes()) {
            text.append(between).append(type.getName());
            between = ",";
        }
        return text.append(')').toString();
    }

    private static boolean isOpen(Member member) {
        return !Modifier.isPrivate(member.getModifiers()) && !member.isSynthetic();
    }

    private static void members() {
        Set<String> open = new TreeSet<>();
        Set<String> names = new TreeSet<>();
        for (Method method : SeedExchange.class.getDeclaredMethods()) {
            if (isOpen(method)) {
                due.is("public " + method, Modifier.isPublic(method.getModifiers()) ? 1 : 0, 1);
                open.add(textOf(method));
                names.add(method.getName());
            }
        }
        due.is("methods " + open, open.equals(new TreeSet<>(Arrays.asList(METHODS))) ? 1 : 0, 1);
        Set<String> fields = new TreeSet<>();
        for (Field field : SeedExchange.class.getDeclaredFields()) {
            if (isOpen(field)) {
                fields.add(field.getName());
            }
        }
        due.is("fields " + fields, fields.equals(Set.of("NONE", "BAD", "FULL", "NOT")) ? 1 : 0, 1);
        due.is("constructors", SeedExchange.class.getDeclaredConstructors().length, 1);
        due.is("final", Modifier.isFinal(SeedExchange.class.getModifiers()) ? 1 : 0, 1);
        noOtherBearsAPublicName(names);
    }

    private static void noOtherBearsAPublicName(Set<String> names) {
        for (Class<?> inside : SeedExchange.class.getDeclaredClasses()) {
            due.is("static " + inside, Modifier.isStatic(inside.getModifiers()) ? 1 : 0, 1);
            for (Method method : inside.getDeclaredMethods()) {
                due.is("name " + method, names.contains(method.getName()) ? 1 : 0, 0);
            }
        }
    }

    private static void wordsLeftOut() throws IOException {
        String source = Files.readString(Path.of("src/main/java/SeedExchange.java"));
        String code = source.replaceAll("(?s)/\\*.*?\\*/", "").replaceAll("//[^\n]*", "");
        for (String pattern : LEFT_OUT) {
            due.is("left out: " + pattern, Pattern.compile(pattern).matcher(code).find() ? 1 : 0, 0);
        }
    }

    /** Rules 5 and 11: static fields are final; few classes, fields and parameters. */
    private static void boundsOfTheLanguage() {
        Class<?>[] inside = SeedExchange.class.getDeclaredClasses();
        due.is("twelve classes at most: " + inside.length, inside.length <= 11 ? 1 : 0, 1);
        boundsOf(SeedExchange.class);
        for (Class<?> type : inside) {
            boundsOf(type);
        }
    }

    private static void boundsOf(Class<?> type) {
        int fields = 0;
        for (Field field : type.getDeclaredFields()) {
            int modifiers = field.getModifiers();
            boolean changing = Modifier.isStatic(modifiers) && !Modifier.isFinal(modifiers);
            due.is("final: " + field, changing ? 1 : 0, 0);
            fields += Modifier.isStatic(modifiers) ? 0 : 1;
        }
        due.is("fields of " + type.getName() + ": " + fields, fields <= 20 ? 1 : 0, 1);
        for (Method method : type.getDeclaredMethods()) {
            due.is("parameters: " + method, method.getParameterCount() <= 7 ? 1 : 0, 1);
        }
    }
}
