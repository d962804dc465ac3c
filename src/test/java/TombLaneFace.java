import java.io.IOException;
import java.lang.reflect.Constructor;
import java.lang.reflect.Field;
import java.lang.reflect.Method;
import java.lang.reflect.Modifier;
import java.nio.file.Files;
import java.nio.file.Path;
import java.util.Set;
import java.util.TreeSet;
import java.util.regex.Matcher;
import java.util.regex.Pattern;

/** The public face to the letter, and the rules of the language that a look at the class or its source can tell. */
public final class TombLaneFace {
    private static int wrong = 0;

    private static final String[] FACE = {
        "int NONE", "new()",
        "int man(long, int, int)", "int feed(int, int, int, int, int)", "int end(int)", "int flake()",
        "int fault(int)", "boolean giveUp(int)", "int later(int)", "int day(int, int, int)",
        "int wicks(int, int, int)", "int span(int, int, int, boolean)", "int missed(int, int, int, int)",
        "boolean ration(int, int)", "int come(int, int, int)", "int arrears(int, int)",
        "boolean worth(int, int, int)", "int debt(int, int, int, int, int)", "boolean pay(int, int)",
        "int balance(int, int)", "int fewest(int)", "int of(int, int)", "int about(int)"};

    public static void main(String[] args) throws IOException {
        checkFace();
        checkClasses();
        checkSource(Files.readString(Path.of("src/main/java/TombLane.java")));
        System.out.println(wrong == 0 ? "the face and the source are as due" : wrong + " things are not as due");
        if (wrong != 0) {
            System.exit(1);
        }
    }

    private static void due(String what, boolean holds) {
        if (!holds) {
            wrong++;
            System.out.println("not so: " + what);
        }
    }

    private static String parameters(Class<?>[] types) {
        StringBuilder text = new StringBuilder("(");
        for (Class<?> type : types) {
            text.append(text.length() > 1 ? ", " : "").append(type.getName());
        }
        return text.append(")").toString();
    }

    private static void checkFace() {
        Set<String> seen = new TreeSet<>();
        for (Field f : TombLane.class.getDeclaredFields()) {
            if (!Modifier.isPrivate(f.getModifiers())) {
                seen.add(f.getType() + " " + f.getName());
                due(f + " is a public constant", f.getModifiers() == (Modifier.PUBLIC | Modifier.STATIC | Modifier.FINAL));
            }
        }
        for (Constructor<?> c : TombLane.class.getDeclaredConstructors()) {
            seen.add("new" + parameters(c.getParameterTypes()));
        }
        for (Method m : TombLane.class.getDeclaredMethods()) {
            if (!Modifier.isPrivate(m.getModifiers())) {
                seen.add(m.getReturnType() + " " + m.getName() + parameters(m.getParameterTypes()));
                due(m + " is public alone", m.getModifiers() == Modifier.PUBLIC);
            }
        }
        Set<String> wanted = new TreeSet<>(Set.of(FACE));
        due("the face is " + wanted + ", not " + seen, wanted.equals(seen));
        due("public and final", TombLane.class.getModifiers() == (Modifier.PUBLIC | Modifier.FINAL));
    }

    private static void checkClasses() {
        Set<String> publicNames = new TreeSet<>();
        for (Method m : TombLane.class.getDeclaredMethods()) {
            if (Modifier.isPublic(m.getModifiers())) {
                publicNames.add(m.getName());
            }
        }
        checkMembers(TombLane.class, publicNames);
        Class<?>[] inside = TombLane.class.getDeclaredClasses();
        due("at most some twelve classes", inside.length + 1 <= 12);
        for (Class<?> c : inside) {
            due(c + " is static", Modifier.isStatic(c.getModifiers()));
            due(c + " is private", Modifier.isPrivate(c.getModifiers()));
            checkMembers(c, publicNames);
        }
    }

    private static void checkMembers(Class<?> c, Set<String> publicNames) {
        int fields = 0;
        for (Field f : c.getDeclaredFields()) {
            boolean isStatic = Modifier.isStatic(f.getModifiers());
            due(f + " is final or no static", !isStatic || Modifier.isFinal(f.getModifiers()));
            fields += isStatic ? 0 : 1;
        }
        due(c + " has at most some twenty fields", fields <= 20);
        for (Method m : c.getDeclaredMethods()) {
            due(m + " has at most seven parameters", m.getParameterCount() <= 7);
            due(m + " bears no public name", !Modifier.isPrivate(m.getModifiers()) || !publicNames.contains(m.getName()));
        }
    }

    private static void checkSource(String source) {
        String code = source.replaceAll("(?s)/\\*.*?\\*/", "").replaceAll("//[^\n]*", "");
        Matcher m = Pattern.compile("\\b(throw|throws|try|catch|synchronized|assert|package|native|volatile|hashCode"
            + "|toString|Exact|System\\.(?!arraycopy)|Random|Thread)\\b|->|::|static\\s*\\{").matcher(code);
        while (m.find()) {
            due("the source does without " + m.group(), false);
        }
        for (String line : code.split("\n")) {
            due("an import that the rules list: " + line,
                !line.startsWith("import") || line.matches("import java\\.util\\.(ArrayList|List|Arrays|Iterator);"));
        }
    }
}
