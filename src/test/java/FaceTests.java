import java.io.IOException;
import java.lang.reflect.Constructor;
import java.lang.reflect.Executable;
import java.lang.reflect.Field;
import java.lang.reflect.Method;
import java.lang.reflect.Modifier;
import java.nio.file.Files;
import java.nio.file.Path;
import java.util.ArrayList;
import java.util.List;
import java.util.TreeSet;
import java.util.regex.Matcher;
import java.util.regex.Pattern;

/** The public face of the document, and rule 1 of LANGUAGE.md. Takes the folder ../shared. */
public final class FaceTests {
    private FaceTests() {
    }

    public static void main(String[] args) throws IOException {
        Path shared = Path.of(args.length > 0 ? args[0] : "../shared");
        Check.due("the face", faceOfDocument(shared.resolve("DOC.md")), FaceTests::faceOfClass);
        Check.due("public and final", true, () -> Modifier.isFinal(HallGuards.class.getModifiers()));
        Check.due("no member besides", "[]", () -> besides().toString());
        Check.due("no private method with a public one's name", "[]", () -> sameNames().toString());
        Check.due("what the interface says ahead of its calls", saidInDocument(shared.resolve("DOC.md")),
                FaceTests::saidInClass);
        Check.end("FaceTests");
    }

    /** "int put(int,int,int) throws A,B" for each line of the face. */
    private static String faceOfDocument(Path document) throws IOException {
        String text = Files.readString(document);
        int begin = text.indexOf("public final class HallGuards {");
        String face = text.substring(begin, text.indexOf("```", begin));
        TreeSet<String> lines = new TreeSet<>();
        Matcher line = Pattern.compile("public ([^(;{]*)\\(([^)]*)\\)(?: throws ([^;]*))?;").matcher(face);
        while (line.find()) {
            String types = line.group(2).replaceAll("(\\w+) \\w+", "$1").replace(" ", "");
            String thrown = line.group(3) == null ? "" : line.group(3).replace(" ", "");
            lines.add(line.group(1) + "(" + types + ") throws " + thrown);
        }
        return String.join("\n", lines);
    }

    private static String faceOfClass() {
        TreeSet<String> lines = new TreeSet<>();
        for (Constructor<?> constructor : HallGuards.class.getConstructors()) {
            lines.add("HallGuards" + tail(constructor));
        }
        for (Method method : HallGuards.class.getDeclaredMethods()) {
            if (Modifier.isPublic(method.getModifiers())) {
                lines.add(method.getReturnType().getSimpleName() + " " + method.getName() + tail(method));
            }
        }
        return String.join("\n", lines);
    }

    private static String tail(Executable executable) {
        List<String> types = new ArrayList<>();
        for (Class<?> type : executable.getParameterTypes()) {
            types.add(type.getSimpleName());
        }
        List<String> thrown = new ArrayList<>();
        for (Class<?> type : executable.getExceptionTypes()) {
            thrown.add(type.getSimpleName());
        }
        return "(" + String.join(",", types) + ") throws " + String.join(",", thrown);
    }

    /** "---- moves: move" for each line that tells what stands ahead of which calls. */
    private static String saidInDocument(Path document) throws IOException {
        StringBuilder said = new StringBuilder();
        for (String line : Files.readAllLines(document)) {
            Matcher ahead = Pattern.compile("Ahead of the calls (.*) the interface says: (---- .*)\\.").matcher(line);
            if (ahead.matches()) {
                said.append(ahead.group(2)).append(": ").append(ahead.group(1).replace("`", "")).append('\n');
            }
        }
        return said.toString();
    }

    private static String saidInClass() throws IOException {
        StringBuilder said = new StringBuilder();
        boolean first = false;
        for (String line : Files.readAllLines(Path.of("src/main/java/HallGuards.java"))) {
            Matcher call = Pattern.compile("    public \\w+ (\\w+)\\(.*").matcher(line);
            if (line.startsWith("    // ---- ")) {
                first = true;
                said.append(said.length() == 0 ? "" : "\n").append(line.substring(7)).append(": ");
            } else if (call.matches()) {
                said.append(first ? "" : ", ").append(call.group(1));
                first = false;
            }
        }
        // behind the face come headings without calls
        return said.toString().replaceAll("---- [^\n]*: (\n|$)", "");
    }

    private static List<String> besides() {
        List<String> found = new ArrayList<>();
        for (Field field : HallGuards.class.getDeclaredFields()) {
            if (!Modifier.isPrivate(field.getModifiers())) {
                found.add(field.getName());
            }
        }
        for (Method method : HallGuards.class.getDeclaredMethods()) {
            int modifiers = method.getModifiers();
            if (!Modifier.isPublic(modifiers) && !Modifier.isPrivate(modifiers)) {
                found.add(method.getName());
            }
        }
        for (Class<?> inside : HallGuards.class.getDeclaredClasses()) {
            if (!Modifier.isStatic(inside.getModifiers()) || Modifier.isPublic(inside.getModifiers())) {
                found.add(inside.getName());
            }
        }
        return found;
    }

    private static List<String> sameNames() {
        List<String> found = new ArrayList<>();
        for (Method method : HallGuards.class.getDeclaredMethods()) {
            for (Method other : HallGuards.class.getDeclaredMethods()) {
                if (Modifier.isPublic(method.getModifiers()) && Modifier.isPrivate(other.getModifiers())
                        && method.getName().equals(other.getName())) {
                    found.add(method.getName());
                }
            }
        }
        return found;
    }
}
