import java.io.IOException;
import java.lang.reflect.Constructor;
import java.lang.reflect.Field;
import java.lang.reflect.Method;
import java.lang.reflect.Modifier;
import java.nio.file.Files;
import java.nio.file.Path;
import java.util.ArrayList;
import java.util.Arrays;
import java.util.List;
import java.util.Set;
import java.util.TreeSet;
import java.util.regex.Matcher;
import java.util.regex.Pattern;

/** The public face is the document's, and the source keeps to rules that can be seen in its text. */
public final class FaceTest {
    private static final Path DOCUMENT = Path.of("../shared/DOC.md");
    private static final Path SOURCE = Path.of("src/main/java/MergeGrid.java");
    /** Words and signs that LANGUAGE.md leaves out; strings and comments do not count. */
    private static final String[] LEFT_OUT = {"->", "::", "\\bcatch\\b", "\\bfinally\\b", "\\bsynchronized\\b",
        "\\bassert\\b", "\\bstatic\\s*\\{", "\\bwhile\\s*\\(\\s*true", "\\bMath\\.\\w*Exact\\b", "\\bSystem\\.(?!arraycopy)",
        "\\bThread\\b", "\\bRandom\\b", "\\bpackage\\b", "\\bhashCode\\b", "\\btoString\\b", "\\bInteger\\b"};

    private static final Answers ANSWERS = new Answers("FaceTest");

    private FaceTest() {
    }

    public static void main(String[] args) throws IOException {
        faceIsTheDocuments();
        nothingElseIsSeen();
        privateNamesAreOthers();
        textKeepsToTheRules();
        callsMakeNothing();
        ANSWERS.end();
    }

    private static String described(Method method) {
        List<String> types = new ArrayList<>();
        for (Class<?> type : method.getParameterTypes()) {
            types.add(type.getSimpleName());
        }
        List<String> thrown = new ArrayList<>();
        for (Class<?> type : method.getExceptionTypes()) {
            thrown.add(type.getSimpleName());
        }
        return method.getReturnType().getSimpleName() + " " + method.getName() + types + thrown;
    }

    private static Set<String> documented() throws IOException {
        Pattern line = Pattern.compile("^    public (\\w+) (\\w+)\\((.*?)\\)(?: throws (.*))?;$", Pattern.MULTILINE);
        Matcher found = line.matcher(Files.readString(DOCUMENT));
        Set<String> face = new TreeSet<>();
        while (found.find()) {
            List<String> types = new ArrayList<>();
            for (String parameter : found.group(3).split(", ")) {
                if (!parameter.isEmpty()) {
                    types.add(parameter.split(" ")[0]);
                }
            }
            List<String> thrown = found.group(4) == null ? List.of() : Arrays.asList(found.group(4).split(", "));
            face.add(found.group(1) + " " + found.group(2) + types + thrown);
        }
        return face;
    }

    private static void faceIsTheDocuments() throws IOException {
        Set<String> face = new TreeSet<>();
        for (Method method : MergeGrid.class.getDeclaredMethods()) {
            if (Modifier.isPublic(method.getModifiers())) {
                face.add(described(method));
            }
        }
        ANSWERS.due("the number of public methods", face.size(), 42);
        ANSWERS.due("the public methods", face, documented());
        ANSWERS.due("the class is final", Modifier.isFinal(MergeGrid.class.getModifiers()), true);
        ANSWERS.due("what it extends", MergeGrid.class.getSuperclass().getSimpleName(), "Object");
    }

    private static void nothingElseIsSeen() {
        for (Field field : MergeGrid.class.getDeclaredFields()) {
            ANSWERS.due(field + " is private", Modifier.isPrivate(field.getModifiers()), true);
        }
        for (Method method : MergeGrid.class.getDeclaredMethods()) {
            boolean isEither = Modifier.isPublic(method.getModifiers()) || Modifier.isPrivate(method.getModifiers());
            ANSWERS.due(method + " is public or private", isEither, true);
        }
        Constructor<?>[] constructors = MergeGrid.class.getDeclaredConstructors();
        ANSWERS.due("the number of constructors", constructors.length, 1);
        ANSWERS.due("its parameters", constructors[0].getParameterCount(), 0);
    }

    private static void privateNamesAreOthers() {
        Set<String> names = new TreeSet<>();
        for (Method method : MergeGrid.class.getDeclaredMethods()) {
            ANSWERS.due("the name of " + method + " stands once", names.add(method.getName()), true);
        }
        for (Class<?> inside : MergeGrid.class.getDeclaredClasses()) {
            ANSWERS.due(inside + " is static", Modifier.isStatic(inside.getModifiers()), true);
            for (Method method : inside.getDeclaredMethods()) {
                boolean isOfFace = Arrays.stream(MergeGrid.class.getMethods())
                        .anyMatch(other -> other.getName().equals(method.getName()));
                ANSWERS.due(method + " bears a name of the face", isOfFace, false);
            }
        }
    }

    private static String code() throws IOException {
        String text = Files.readString(SOURCE);
        return text.replaceAll("(?s)/\\*.*?\\*/", "").replaceAll("//[^\n]*", "").replaceAll("\"[^\"\n]*\"", "\"\"");
    }

    private static void textKeepsToTheRules() throws IOException {
        String code = code();
        for (String pattern : LEFT_OUT) {
            ANSWERS.due("the source has " + pattern, Pattern.compile(pattern).matcher(code).find(), false);
        }
        Matcher imports = Pattern.compile("import ([\\w.]+);").matcher(code);
        while (imports.find()) {
            boolean isFree = Set.of("java.util.Arrays", "java.util.NoSuchElementException").contains(imports.group(1));
            ANSWERS.due("the import " + imports.group(1) + " is free", isFree, true);
        }
    }

    /** All calls of a run share one room, so only constructors and fields make anything but exceptions. */
    private static void callsMakeNothing() throws IOException {
        String owner = "";
        for (String line : code().split("\n")) {
            if (line.matches("(?s)    (    )?\\S.*\\{\\s*")) {
                owner = line.trim();
            }
            boolean isField = line.matches("\\s+(private )?(static )?(final )?[\\w\\[\\]]+ \\w+ = new .*;\\s*")
                    && line.matches("    (    )?\\S.*");
            boolean isMade = line.matches(".*\\bnew (?!\\w+Exception\\().*") && !isField;
            if (isMade) {
                ANSWERS.due(line.trim() + " stands in a constructor", owner.matches("(public )?[A-Z]\\w*\\(\\) \\{"), true);
            }
        }
    }
}
