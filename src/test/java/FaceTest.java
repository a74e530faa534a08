import java.io.IOException;
import java.lang.reflect.Constructor;
import java.lang.reflect.Field;
import java.lang.reflect.Method;
import java.lang.reflect.Modifier;
import java.nio.file.Files;
import java.nio.file.Path;
import java.util.Set;
import java.util.TreeSet;
import java.util.regex.Matcher;
import java.util.regex.Pattern;

/** The face is the document's and nothing else, and the source keeps to the rules that a search can see. */
public final class FaceTest {
    private static final Set<String> FACE = Set.of(
            "int place(int,long,int)", "int walls(long,long)", "int rails(int,int)", "int steps(long,int)",
            "int move(int,long,int)", "int snap(int,int)", "int lean(int,int)", "int pull(int,int,int)",
            "int swing(int,long)", "int guide(int,long)", "int stick(int,long)", "int undo()",
            "long x(int)", "int y(int)", "long side(int)", "int lift(int)", "long far(int,int)",
            "int cell(int)", "long mark(int)", "int gap(int,int)", "long rise(int,int)",
            "long edge(int)", "int rim(int)", "int neighbour(int)", "int column(int)", "long row(int)",
            "int count(int)");

    private static final String[] RULED_OUT = {
        "import", "package", "Double", "Float", "StrictMath", "System", "Object", "NaN", "try", "catch", "finally",
        "throw", "throws", "assert", "synchronized", "native", "volatile", "var", "instanceof", "lambda",
    };

    private static final Check CHECK = new Check();

    public static void main(String[] args) throws IOException {
        face();
        members();
        source();
        CHECK.end();
    }

    private static void face() {
        CHECK.about("face");
        int modifiers = SnapTable.class.getModifiers();
        CHECK.due("public and final", Modifier.isPublic(modifiers) && Modifier.isFinal(modifiers));
        CHECK.due("NONE", SnapTable.NONE, -1);
        Set<String> found = new TreeSet<>();
        Set<String> names = new TreeSet<>();
        for (Method method : SnapTable.class.getDeclaredMethods()) {
            if (!Modifier.isPrivate(method.getModifiers())) {
                found.add(told(method));
                names.add(method.getName());
                CHECK.due(method + " is public and no static one", Modifier.isPublic(method.getModifiers())
                        && !Modifier.isStatic(method.getModifiers()));
            }
        }
        CHECK.due("the methods " + found, found.equals(FACE));
        for (Method method : SnapTable.class.getDeclaredMethods()) {
            if (Modifier.isPrivate(method.getModifiers())) {
                CHECK.due(method + " bears no public name", !names.contains(method.getName()));
            }
        }
    }

    private static String told(Method method) {
        StringBuilder text = new StringBuilder();
        text.append(method.getReturnType()).append(' ').append(method.getName()).append('(');
        String comma = "";
        for (Class<?> type : method.getParameterTypes()) {
            text.append(comma).append(type);
            comma = ",";
        }
        return text.append(')').toString();
    }

    private static void members() {
        CHECK.about("members");
        Constructor<?>[] constructors = SnapTable.class.getDeclaredConstructors();
        CHECK.due("constructors", constructors.length, 1);
        CHECK.due("public constructor", Modifier.isPublic(constructors[0].getModifiers())
                && constructors[0].getParameterCount() == 0);
        for (Field field : SnapTable.class.getDeclaredFields()) {
            int modifiers = field.getModifiers();
            CHECK.due(field + " is private, or NONE", Modifier.isPrivate(modifiers) || field.getName().equals("NONE"));
            CHECK.due(field + " is final, if static", !Modifier.isStatic(modifiers) || Modifier.isFinal(modifiers));
        }
        for (Class<?> inside : SnapTable.class.getDeclaredClasses()) {
            CHECK.due(inside + " is static", Modifier.isStatic(inside.getModifiers()));
            for (Field field : inside.getDeclaredFields()) {
                if (Modifier.isStatic(field.getModifiers())) {
                    CHECK.due(field + " is a final int or long", Modifier.isFinal(field.getModifiers())
                            && (field.getType() == int.class || field.getType() == long.class));
                }
            }
        }
    }

    private static void source() throws IOException {
        CHECK.about("source");
        String text = Files.readString(Path.of("src/main/java/SnapTable.java"));
        String code = text.replaceAll("(?s)/\\*.*?\\*/", " ").replaceAll("//[^\n]*", " ");
        for (String word : RULED_OUT) {
            CHECK.due("no " + word, !Pattern.compile("\\b" + word + "\\b").matcher(code).find());
        }
        CHECK.due("no arrow", !code.contains("->"));
        CHECK.due("no method reference", !code.contains("::"));
        CHECK.due("no static block", !Pattern.compile("static\\s*\\{").matcher(code).find());
        Matcher library = Pattern.compile("\\b(Math|Integer|Long)\\.(\\w+)").matcher(code);
        while (library.find()) {
            CHECK.due("no " + library.group(), library.group().equals("Math.abs"));
        }
    }
}
