import java.io.IOException;
import java.lang.reflect.Field;
import java.lang.reflect.Member;
import java.lang.reflect.Method;
import java.lang.reflect.Modifier;
import java.nio.file.Files;
import java.nio.file.Path;
import java.util.ArrayList;
import java.util.Arrays;
import java.util.HashSet;
import java.util.List;
import java.util.Set;
import java.util.regex.Matcher;
import java.util.regex.Pattern;

/** Those rules of ../shared/LANGUAGE.md that the program's text and its classes show. */
public final class LanguageTest {
    private static final Path PROGRAM = Path.of("src/main/java/CourtCalendar.java");
    private static final Set<String> LIBRARY = Set.of("java.util.ArrayList", "java.util.Arrays", "java.util.Iterator",
        "java.util.List", "java.util.NoSuchElementException");
    private static final List<String> RULED_OUT = List.of("package", "finally", "catch", "synchronized", "assert", "protected",
        "Exact", "->", "::", "new Random", "System\\.(?!arraycopy)", "Thread", "native", "volatile", "transient");
    private static final Pattern HEAD = Pattern.compile("^( +)((?:public |private |static )*)[\\w\\[\\]]+ (\\w+)\\([^;]*$");

    private record Body(String name, String modifiers, List<String> lines) {
    }

    public static void main(String[] args) throws IOException {
        List<String> lines = new ArrayList<>();
        for (String line : Files.readAllLines(PROGRAM)) {
            lines.add(line.trim().startsWith("*") || line.trim().startsWith("/*") ? "" : line.replaceAll("//.*", ""));
        }
        words(lines);
        List<Body> bodies = bodies(lines);
        Check.same("methods in the text", named(bodies), named());
        for (Body body : bodies) {
            recursion(body);
            Check.same("rule 11: lines of " + body.name, body.lines.size() <= 60 ? "few" : body.lines.size(), "few");
        }
        members();
        Check.end("LanguageTest");
    }

    private static void words(List<String> lines) {
        for (String line : lines) {
            if (line.startsWith("import ")) {
                Check.same("rule 4: " + line, LIBRARY.contains(line.substring(7, line.length() - 1)), true);
            }
            for (String word : RULED_OUT) {
                String whole = word.matches("[a-z]+") ? "\\b" + word + "\\b" : word;
                Check.same(line + " holds " + word, Pattern.compile(whole).matcher(line).find(), false);
            }
        }
    }

    /** The methods, each from its head to the brace that stands as far in as the head. */
    private static List<Body> bodies(List<String> lines) {
        List<Body> all = new ArrayList<>();
        for (int i = 0; i < lines.size(); i++) {
            Matcher head = HEAD.matcher(lines.get(i));
            if (head.matches() && !lines.get(i).contains(" new ") && !lines.get(i).contains("return ")) {
                int end = lines.subList(i, lines.size()).indexOf(head.group(1) + "}");
                all.add(new Body(head.group(3), head.group(2), lines.subList(i + 1, i + Math.max(end, 1))));
            }
        }
        return all;
    }

    private static List<String> named(List<Body> bodies) {
        return bodies.stream().map(Body::name).filter(name -> !name.equals("CourtCalendar")).sorted().toList();
    }

    /** The names of the methods that the classes hold, but for those that each enum has. */
    private static List<String> named() {
        return classes().stream().flatMap(type -> Arrays.stream(type.getDeclaredMethods())).filter(method -> !method.isSynthetic())
            .map(Method::getName).filter(name -> !name.equals("values") && !name.equals("valueOf")).sorted().toList();
    }

    private static List<Class<?>> classes() {
        List<Class<?>> all = new ArrayList<>(List.of(CourtCalendar.class.getDeclaredClasses()));
        all.add(CourtCalendar.class);
        return all;
    }

    /** Rule 8: a method that calls itself is private and static. */
    private static void recursion(Body body) {
        Pattern itself = Pattern.compile("(?<![.\\w])(this\\.)?" + body.name + "\\(");
        boolean recurs = body.lines.stream().anyMatch(line -> itself.matcher(line).find());
        Check.same("rule 8: " + body.modifiers + body.name + " calls itself", recurs && !body.modifiers.equals("private static "), false);
    }

    private static void members() {
        List<Class<?>> classes = classes();
        Check.same("rule 11: " + classes.size() + " classes", classes.size() <= 12, true);
        Set<String> face = new HashSet<>();
        for (Method method : CourtCalendar.class.getDeclaredMethods()) {
            if (Modifier.isPublic(method.getModifiers())) {
                face.add(method.getName());
            }
        }
        for (Class<?> type : classes) {
            boolean open = Modifier.isPublic(type.getModifiers()) && type != CourtCalendar.class;
            Check.same("rules 1 and 2: " + type + " is public", open, false);
            for (Method method : type.getDeclaredMethods()) {
                Check.same("rule 11: parameters of " + method, method.getParameterCount() <= 7, true);
                boolean hidden = Modifier.isPrivate(method.getModifiers());
                Check.same("rule 1: " + method + " bears a public name", hidden && face.contains(method.getName()), false);
            }
            fields(type);
        }
    }

    private static void fields(Class<?> type) {
        long held = Arrays.stream(type.getDeclaredFields()).filter(field -> !isStatic(field)).count();
        Check.same("rule 11: " + held + " fields of " + type, held <= 20, true);
        for (Field field : type.getDeclaredFields()) {
            boolean fixed = !isStatic(field) || Modifier.isFinal(field.getModifiers());
            Check.same("rule 5: " + field + " is final", fixed, true);
        }
    }

    private static boolean isStatic(Member member) {
        return Modifier.isStatic(member.getModifiers());
    }
}
