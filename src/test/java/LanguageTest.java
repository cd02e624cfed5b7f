import java.io.IOException;
import java.lang.reflect.Constructor;
import java.lang.reflect.Field;
import java.lang.reflect.Method;
import java.lang.reflect.Modifier;
import java.nio.file.Files;
import java.nio.file.Path;
import java.util.ArrayList;
import java.util.Arrays;
import java.util.List;
import java.util.NoSuchElementException;
import java.util.TreeSet;
import java.util.regex.Matcher;
import java.util.regex.Pattern;

/** The rules of ../shared/LANGUAGE.md that can be looked at by a program, and the face of the class. */
public final class LanguageTest {
    private static final String FACE = "feed(int,int,int,int,int)int end(int)boolean text()int code(int,int)int "
            + "label(int)int reach(int,int)int hog(int)int slice(int)int poke(int,int,int)boolean "
            + "start(int,int,int,int)boolean tick(int)int undo()int machine(int,int)int word(int,int)int "
            + "queue(int,int,int)int timer(int,int,int)int link(int,int,int)int meeting(int,int)int stuck()boolean "
            + "ahead(int,int)int share(int,int,int)int until(int,int,int,int)int slices(int,int,int)int "
            + "keep(int)boolean back(int)boolean count(int)int";
    private static final Due due = new Due();

    public static void main(String[] args) throws IOException {
        face();
        classesInside();
        source(Files.readString(Path.of("src/main/java/MeetingMachines.java")));
        due.end();
    }

    private static void face() {
        Class<?> c = MeetingMachines.class;
        TreeSet<String> seen = new TreeSet<>();
        for (Method m : c.getDeclaredMethods()) {
            if (Modifier.isPublic(m.getModifiers())) {
                seen.add(signature(m));
                boolean lacks = m.getName().equals("code") || m.getName().equals("word");
                due.yes(m + " throws what the face says", Arrays.equals(m.getExceptionTypes(), lacks
                        ? new Class<?>[] {NoSuchElementException.class} : new Class<?>[0]));
                due.yes(m + " is called on an object", !Modifier.isStatic(m.getModifiers()));
            } else {
                due.yes(m + " is private", Modifier.isPrivate(m.getModifiers()));
            }
        }
        due.yes("the face " + seen, seen.equals(new TreeSet<>(Arrays.asList(FACE.split(" ")))));
        due.yes("no package", c.getPackageName().isEmpty());
        due.yes("public and final", Modifier.isPublic(c.getModifiers()) && Modifier.isFinal(c.getModifiers()));
        for (Field f : c.getDeclaredFields()) {
            due.yes(f + " is private, or NONE", Modifier.isPrivate(f.getModifiers()) || f.getName().equals("NONE"));
        }
        due.is("NONE", MeetingMachines.NONE, -1);
        due.is("public fields", c.getFields().length, 1);
        Constructor<?>[] all = c.getDeclaredConstructors();
        due.yes("one public constructor", all.length == 1 && Modifier.isPublic(all[0].getModifiers())
                && all[0].getParameterCount() == 0);
    }

    private static String signature(Method m) {
        List<String> types = new ArrayList<>();
        for (Class<?> type : m.getParameterTypes()) {
            types.add(type.getName());
        }
        return m.getName() + "(" + String.join(",", types) + ")" + m.getReturnType().getName();
    }

    private static void classesInside() {
        Class<?>[] inside = MeetingMachines.class.getDeclaredClasses();
        due.yes("some twelve classes", inside.length <= 12);
        List<Class<?>> all = new ArrayList<>(Arrays.asList(inside));
        all.add(MeetingMachines.class);
        for (Class<?> c : all) {
            int fields = 0;
            for (Field f : c.getDeclaredFields()) {
                if (Modifier.isStatic(f.getModifiers())) {
                    due.yes(f + " is a constant", Modifier.isFinal(f.getModifiers())
                            && (f.getType().isPrimitive() || f.getType() == String.class));
                } else {
                    fields++;
                }
            }
            due.yes(c + " has some twenty fields", fields <= 20);
            for (Method m : c.getDeclaredMethods()) {
                due.yes(m + " has seven parameters at most", m.getParameterCount() <= 7);
                due.yes(m + " bears a name of its own", c == MeetingMachines.class
                        && Modifier.isPublic(m.getModifiers()) || !(" " + FACE).contains(" " + m.getName() + "("));
                due.yes(m + " is not synthetic", !m.isSynthetic());
            }
            due.yes(c + " is private and static, or the face", c == MeetingMachines.class
                    || Modifier.isPrivate(c.getModifiers()) && Modifier.isStatic(c.getModifiers()));
        }
    }

    private static void source(String text) {
        String code = text.replaceAll("(?s)/\\*.*?\\*/", "").replaceAll("//[^\n]*", "").replaceAll("\"[^\"]*\"", "\"\"");
        for (String word : List.of("->", "::", "\\btry\\b", "\\bcatch\\b", "\\bfinally\\b", "\\bsynchronized\\b",
                "\\bassert\\b", "\\bfloat\\b", "\\bdouble\\b", "Exact", "\\bvar\\b", "@", "hashCode", "toString",
                "\\bstatic \\{", "\"\" *\\+", "\\+ *\"\"")) {
            due.yes("no " + word, !Pattern.compile(word).matcher(code).find());
        }
        Matcher imports = Pattern.compile("import ([^;]*);").matcher(code);
        while (imports.find()) {
            due.yes(imports.group(), List.of("java.util.Arrays", "java.util.NoSuchElementException").contains(
                    imports.group(1)));
        }
        Matcher library = Pattern.compile("\\b(Arrays|System|Math|Integer|Long)\\.(\\w+)").matcher(code);
        while (library.find()) {
            due.yes(library.group(), List.of("Arrays.fill", "System.arraycopy", "Math.min").contains(library.group()));
        }
        Matcher made = Pattern.compile("throw new (\\w+)").matcher(code);
        while (made.find()) {
            due.yes(made.group(), made.group(1).equals("NoSuchElementException"));
        }
        for (char sign : text.toCharArray()) {
            if (sign > 127) {
                due.yes("only signs up to 127", false);
            }
        }
        methodsAreShort(text.split("\n"));
    }

    private static void methodsAreShort(String[] lines) {
        int start = 0;
        for (int i = 0; i < lines.length; i++) {
            if (lines[i].matches(" {4,8}\\S.*\\) *(throws \\w+ )?\\{")) {
                start = i;
            }
            if (lines[i].matches(" {4,8}\\}") && start > 0) {
                due.yes(lines[start] + " is short", i - start <= 60 || lines[start].contains("class"));
                start = 0;
            }
            due.yes("line " + (i + 1) + " is short", lines[i].length() <= 120);
        }
    }
}
