import java.io.IOException;
import java.lang.reflect.Constructor;
import java.lang.reflect.Field;
import java.lang.reflect.Method;
import java.lang.reflect.Modifier;
import java.nio.file.Files;
import java.nio.file.Path;
import java.util.Arrays;
import java.util.Set;
import java.util.TreeSet;
import java.util.regex.Matcher;
import java.util.regex.Pattern;

/** The members that the document names and no others, and a look at the words of the source. */
public final class FaceTest {
    private static final String[] FACE = {"int knot()", "int wire(int,int)", "int battery(int)", "int cut(int,boolean)",
        "int lay(int,int)", "int bare(int)", "int mirror()", "int about()", "int clear()", "int keep()", "int back()",
        "int cause()", "int of(int,int)", "int turn(int,int)", "int faces()", "int face(int)", "long trees()",
        "int current(int)", "int height(int)", "int place(int)", "int rectangle(int)", "int square(int,int)",
        "int within(int)", "int at(int,int)", "int tell(int,int,int)", "int alter(int,int,int)", "int hush()",
        "int copy()", "int fit(int,int)", "int read(int,int)", "int claim(int,int)", "int raise(int,int)",
        "int grant()", "int judge()", "int count(int)"};

    public static void main(String[] args) throws IOException {
        theClass();
        theMethods();
        theFields();
        theNestedClasses();
        theWords();
        Due.finish("FaceTest");
    }

    private static void due(String what, boolean is) {
        Due.due(what, is ? 1 : 0, 1);
    }

    private static void theClass() {
        int flags = SquareTiler.class.getModifiers();
        due("the class is public and final", Modifier.isPublic(flags) && Modifier.isFinal(flags));
        due("it is in no package", SquareTiler.class.getPackageName().isEmpty());
        Constructor<?>[] all = SquareTiler.class.getDeclaredConstructors();
        due("one public constructor without parameters", all.length == 1 && all[0].getParameterCount() == 0
                && Modifier.isPublic(all[0].getModifiers()));
    }

    private static void theMethods() {
        Set<String> open = new TreeSet<>();
        Set<String> names = new TreeSet<>();
        for (Method m : SquareTiler.class.getDeclaredMethods()) {
            if (!Modifier.isPrivate(m.getModifiers())) {
                open.add(m.toString().replaceAll("^public (\\w+) SquareTiler\\.", "$1 "));
                names.add(m.getName());
            }
        }
        Set<String> want = new TreeSet<>(Arrays.asList(FACE));
        due("open methods " + open + " are " + want, open.equals(want));
        for (Class<?> c : SquareTiler.class.getDeclaredClasses()) {
            for (Method m : c.getDeclaredMethods()) {
                due(m + " bears no name of the face", !names.contains(m.getName()));
                due(m + " has at most seven parameters", m.getParameterCount() <= 7);
            }
        }
        for (Method m : SquareTiler.class.getDeclaredMethods()) {
            if (Modifier.isPrivate(m.getModifiers())) {
                due(m + " bears no name of the face", !names.contains(m.getName()));
            }
        }
    }

    private static void theFields() {
        for (Field f : SquareTiler.class.getDeclaredFields()) {
            boolean isOpen = !Modifier.isPrivate(f.getModifiers());
            due(f + " is private but for NO", isOpen == f.getName().equals("NO"));
            theField(f);
        }
        Due.due("NO", SquareTiler.NO, -2000000000);
    }

    private static void theField(Field f) {
        Class<?> type = f.getType();
        if (Modifier.isStatic(f.getModifiers())) {
            due(f + " is a constant", Modifier.isFinal(f.getModifiers()) && type.isPrimitive());
            return;
        }
        boolean isRow = type.isArray() && type.getComponentType().isPrimitive();
        boolean isOwn = type.getName().startsWith("SquareTiler$");
        due(f + " is a number, a row of numbers or of a class inside", type.isPrimitive() || isRow || isOwn);
    }

    private static void theNestedClasses() {
        Class<?>[] all = SquareTiler.class.getDeclaredClasses();
        due("at most twelve classes", all.length < 12);
        for (Class<?> c : all) {
            due(c + " is static", Modifier.isStatic(c.getModifiers()));
            due(c + " is not open", !Modifier.isPublic(c.getModifiers()) && !Modifier.isProtected(c.getModifiers()));
            due(c + " has some twenty fields at most", c.getDeclaredFields().length <= 20);
            for (Field f : c.getDeclaredFields()) {
                theField(f);
            }
        }
    }

    private static void theWords() throws IOException {
        String source = Files.readString(Path.of("src/main/java/SquareTiler.java"))
                .replaceAll("(?s)/\\*.*?\\*/", " ").replaceAll("//[^\n]*", " ");
        Matcher refused = Pattern.compile("\\b(throw|throws|try|catch|finally|synchronized|assert|import|package|native"
                + "|volatile|transient|Object|hashCode|toString|\\w+Exact|System\\.(?!arraycopy)\\w+)\\b|->|::|@")
                .matcher(source);
        while (refused.find()) {
            due("the word " + refused.group() + " stands in the source", false);
        }
        due("there is a source", source.contains("class SquareTiler"));
    }
}
