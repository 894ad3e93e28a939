import java.io.IOException;
import java.lang.reflect.Executable;
import java.lang.reflect.Field;
import java.lang.reflect.Method;
import java.lang.reflect.Modifier;
import java.nio.file.Files;
import java.nio.file.Path;
import java.util.TreeSet;
import java.util.regex.Matcher;
import java.util.regex.Pattern;

/** The public face of the class is just that of the document. */
public final class FaceTest {
    private static final Pattern MEMBER = Pattern.compile("    public ([a-z ]*?) ?(\\w+)\\((.*)\\)( throws .*)?;");

    public static void main(String[] args) throws IOException {
        TreeSet<String> due = new TreeSet<>();
        Matcher member = MEMBER.matcher("");
        for (String line : Files.readAllLines(Path.of("../shared/DOC.md"))) {
            if (member.reset(line).matches()) {
                String types = member.group(3).replaceAll(" \\w+(?=,|$)", "");
                due.add(member.group(1) + " " + member.group(2) + "(" + types + ")" + (member.group(4) == null ? "" : member.group(4)));
            }
        }
        Check.same("a constructor and 43 methods", due.size(), 44);
        TreeSet<String> got = new TreeSet<>();
        got.add(told("", CourtCalendar.class.getDeclaredConstructors()[0], "CourtCalendar"));
        for (Method method : CourtCalendar.class.getDeclaredMethods()) {
            if (!Modifier.isPrivate(method.getModifiers()) && !method.isSynthetic()) {
                got.add(told(method.getReturnType().getSimpleName(), method, method.getName()));
            }
        }
        Check.same("the face", got, due);
        Check.same("one constructor", CourtCalendar.class.getDeclaredConstructors().length, 1);
        Check.same("a public final class", CourtCalendar.class.getModifiers(), Modifier.PUBLIC | Modifier.FINAL);
        constants();
        Check.end("FaceTest");
    }

    /** How the document would tell of it; what is not public shows by its modifiers. */
    private static String told(String answer, Executable member, String name) {
        StringBuilder all = new StringBuilder(member.getModifiers() == Modifier.PUBLIC ? "" : Modifier.toString(member.getModifiers()) + " ");
        all.append(answer).append(' ').append(name).append('(');
        for (Class<?> type : member.getParameterTypes()) {
            all.append(all.charAt(all.length() - 1) == '(' ? "" : ", ").append(type.getSimpleName());
        }
        all.append(')');
        for (Class<?> thrown : member.getExceptionTypes()) {
            all.append(all.charAt(all.length() - 1) == ')' ? " throws " : ", ").append(thrown.getSimpleName());
        }
        return all.toString();
    }

    private static void constants() {
        StringBuilder shown = new StringBuilder();
        for (Field field : CourtCalendar.class.getDeclaredFields()) {
            shown.append(Modifier.isPrivate(field.getModifiers()) || field.isSynthetic() ? "" : Modifier.toString(field.getModifiers()) + " "
                + field.getType() + " " + field.getName());
        }
        Check.same("the constants", shown.toString(), "public static final int NONE");
        Check.same("NONE", CourtCalendar.NONE, -1);
    }
}
