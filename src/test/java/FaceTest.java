import java.io.IOException;
import java.lang.reflect.Constructor;
import java.lang.reflect.Field;
import java.lang.reflect.Method;
import java.lang.reflect.Modifier;
import java.nio.file.Files;
import java.nio.file.Path;
import java.util.Arrays;
import java.util.TreeSet;
import java.util.regex.Matcher;
import java.util.regex.Pattern;

/** The class shows what the document's face has, and nothing else. */
public final class FaceTest {
    private static final String[] FACE = {
        "boolean emit(int, int, int)", "boolean feed(int)", "int plant()", "int fuzz(int)", "int count(int)",
        "int entry(int, int)", "int entryByte(int, int)", "int seen(int, int)", "int finding(int, int)",
        "int findingByte(int, boolean, int)", "int current(int)", "int state()"
    };

    private static final Path DOCUMENT = Path.of("../shared/DOC.md");

    public static void main(String[] args) throws IOException {
        Expect.same("a public final class", EdgeCampaign.class.getModifiers(), Modifier.PUBLIC | Modifier.FINAL);
        isTheDocumentsFace();
        showsTheMethods();
        showsTheConstant();
        showsTheConstructor();
        hidesNestedState();
        Expect.done();
    }

    /** The names of the parameters are no part of the face. */
    private static void isTheDocumentsFace() throws IOException {
        if (!Files.exists(DOCUMENT)) {
            System.out.println("the document is not there: its face is not compared");
            return;
        }
        TreeSet<String> due = new TreeSet<>();
        Matcher lines = Pattern.compile("(?m)^    public ((?:int|boolean) \\w+\\(.*\\));$").matcher(Files.readString(DOCUMENT));
        while (lines.find()) {
            due.add(lines.group(1).replaceAll("(int|boolean) \\w+(?=[,)])", "$1"));
        }
        Expect.sameText("the document's methods", new TreeSet<>(Arrays.asList(FACE)).toString(), due.toString());
    }

    private static void showsTheMethods() {
        TreeSet<String> shown = new TreeSet<>();
        TreeSet<String> names = new TreeSet<>();
        for (String line : FACE) {
            names.add(line.substring(line.indexOf(' ') + 1, line.indexOf('(')));
        }
        for (Method method : EdgeCampaign.class.getDeclaredMethods()) {
            if (Modifier.isPrivate(method.getModifiers())) {
                Expect.same(method.getName() + " is a name of the face", names.contains(method.getName()), false);
            } else {
                Expect.same(method + " is public alone", method.getModifiers(), Modifier.PUBLIC);
                String types = Arrays.toString(method.getParameterTypes());
                shown.add(method.getReturnType() + " " + method.getName() + "(" + types.substring(1, types.length() - 1) + ")");
            }
        }
        Expect.sameText("methods", shown.toString(), new TreeSet<>(Arrays.asList(FACE)).toString());
    }

    private static void showsTheConstant() {
        for (Field field : EdgeCampaign.class.getDeclaredFields()) {
            boolean isConstant = field.getName().equals("NONE");
            Expect.same(field + " is shown", !Modifier.isPrivate(field.getModifiers()), isConstant);
            if (isConstant) {
                Expect.same("NONE", field.getModifiers(), Modifier.PUBLIC | Modifier.STATIC | Modifier.FINAL);
            }
        }
        Expect.same("NONE", EdgeCampaign.NONE, -1);
    }

    private static void showsTheConstructor() {
        Constructor<?>[] constructors = EdgeCampaign.class.getDeclaredConstructors();
        Expect.same("constructors", constructors.length, 1);
        Expect.sameText("constructor", constructors[0].toString(), "public EdgeCampaign(int)");
    }

    private static void hidesNestedState() {
        Class<?>[] nested = EdgeCampaign.class.getDeclaredClasses();
        Expect.same("at most twelve classes", nested.length < 12, true);
        for (Class<?> inside : nested) {
            Expect.same(inside + " is static", Modifier.isStatic(inside.getModifiers()), true);
            Expect.same(inside + " is public", Modifier.isPublic(inside.getModifiers()), false);
            for (Field field : inside.getDeclaredFields()) {
                boolean isChanging = Modifier.isStatic(field.getModifiers()) && !Modifier.isFinal(field.getModifiers());
                Expect.same(field + " is static and changes", isChanging, false);
            }
        }
    }
}
