import java.io.IOException;
import java.lang.reflect.Constructor;
import java.lang.reflect.Field;
import java.lang.reflect.Method;
import java.lang.reflect.Modifier;
import java.nio.file.Files;
import java.nio.file.Path;
import java.util.Set;
import java.util.TreeSet;
import java.util.regex.Pattern;

/** The public face of the document, and those rules of LANGUAGE.md that a look at the names can tell. */
public final class FaceTest {
    private static final Set<String> FACE = Set.of(
        "BaselineGrid()", "int UNKNOWN", "int BAD_VALUE", "int FULL", "int NOT_POSSIBLE", "int NONE",
        "int set(int,int)", "int paragraph(int,int,int,int,boolean)", "int put(int,boolean,int)", "int putAll(int)",
        "int remove(int,int)", "int snap(int,int,boolean)", "int flow(int)", "int spread(int,int)", "int type(char)",
        "int clearText()", "int undo()", "int keep()", "int restore()", "int block(int,int,int)",
        "int line(int,int,int)", "int column(int,int)", "int shared(int,int)", "int ifStep(int,int)",
        "int bestStep(int,int)", "int count(int)");
    private static final String[] RULED_OUT = {"throw", "throws", "try", "catch", "synchronized", "assert", "import",
        "package", "protected", "equals", "hashCode", "toString", "System\\.(?!arraycopy)\\w+", "Integer\\.\\w+_VALUE",
        "\\w+Exact"};

    public static void main(String[] args) throws IOException {
        Due.is("modifiers", BaselineGrid.class.getModifiers(), Modifier.PUBLIC | Modifier.FINAL);
        Set<String> face = new TreeSet<>();
        Set<String> publicNames = new TreeSet<>();
        for (Constructor<?> c : BaselineGrid.class.getDeclaredConstructors()) {
            face.add(c.getParameterCount() == 0 && Modifier.isPublic(c.getModifiers()) ? "BaselineGrid()" : c.toString());
        }
        for (Field f : BaselineGrid.class.getDeclaredFields()) {
            if (Modifier.isPublic(f.getModifiers()) && Modifier.isStatic(f.getModifiers())) {
                face.add(f.getType().getName() + " " + f.getName());
            } else if (!Modifier.isPrivate(f.getModifiers())) {
                face.add(f.toString());
            }
            Due.is(f + " is final if static", Modifier.isStatic(f.getModifiers()) && !Modifier.isFinal(f.getModifiers()) ? 1 : 0, 0);
        }
        for (Method m : BaselineGrid.class.getDeclaredMethods()) {
            if (!Modifier.isPrivate(m.getModifiers())) {
                face.add(m.toGenericString().replace("public ", "").replace("BaselineGrid.", ""));
                publicNames.add(m.getName());
            }
        }
        for (String member : face) {
            Due.is("in the document: " + member, FACE.contains(member) ? 1 : 0, 1);
        }
        Due.is("members of the face", face.size(), FACE.size());
        for (Method m : BaselineGrid.class.getDeclaredMethods()) {
            if (Modifier.isPrivate(m.getModifiers())) {
                Due.is("a private method with a public name: " + m, publicNames.contains(m.getName()) ? 1 : 0, 0);
            }
        }
        for (Class<?> c : BaselineGrid.class.getDeclaredClasses()) {
            Due.is(c + " is static and not public", Modifier.isStatic(c.getModifiers()) && !Modifier.isPublic(c.getModifiers()) ? 1 : 0, 1);
        }
        wordsRuledOut();
        Due.end();
    }

    private static void wordsRuledOut() throws IOException {
        String code = Files.readString(Path.of("src/main/java/BaselineGrid.java"));
        code = code.replaceAll("(?s)/\\*.*?\\*/", "").replaceAll("//[^\n]*", "");
        for (String word : RULED_OUT) {
            Due.is("the program has " + word, Pattern.compile("\\b" + word + "\\b").matcher(code).find() ? 1 : 0, 0);
        }
        Due.is("the program has -> or ::", code.contains("->") || code.contains("::") ? 1 : 0, 0);
    }
}
