import java.io.IOException;
import java.lang.reflect.Constructor;
import java.lang.reflect.Field;
import java.lang.reflect.Method;
import java.lang.reflect.Modifier;
import java.nio.file.Files;
import java.nio.file.Path;
import java.util.Arrays;
import java.util.Set;
import java.util.TreeSet;
import java.util.regex.Matcher;
import java.util.regex.Pattern;

/** The public face, and the rules of LANGUAGE.md that can be read off the class and its text. */
public final class FaceTest {
    private static final Check CHECK = new Check();
    private static final String[] FACE = {
        "int write(int)", "int wipe()", "int fault()", "int lay()", "int guest(int,int)", "int say(int)",
        "int pass(int)", "int fetch()", "int undo()", "int passes(boolean)", "int longBy(int,boolean)",
        "int together(boolean)", "int judge(int,int)", "int share(int,boolean)", "int comes(int,int)",
        "int spoken(int,int)", "int dine(int,int)", "int clear()", "int laws(int)", "int hosts(int,boolean)",
        "int come(int,int,boolean)", "long seed(long)", "int dinner(int)", "int keep(int)", "int again(int)",
        "int count(int)"};

    public static void main(String[] args) throws IOException {
        face();
        members(LeafTable.class);
        noNameOfTheFace(LeafTable.class);
        for (Class<?> inside : LeafTable.class.getDeclaredClasses()) {
            CHECK.due(inside + " is static", Modifier.isStatic(inside.getModifiers()) ? 1 : 0, 1);
            members(inside);
            noNameOfTheFace(inside);
        }
        words(Files.readString(Path.of("src/main/java/LeafTable.java")));
        CHECK.end("FaceTest");
    }

    private static void face() {
        Set<String> found = new TreeSet<>();
        for (Method method : LeafTable.class.getDeclaredMethods()) {
            if (!Modifier.isPrivate(method.getModifiers())) {
                String told = Arrays.toString(method.getParameterTypes()).replace("[", "(").replace("]", ")");
                found.add(method.getReturnType() + " " + method.getName() + told.replace(" ", ""));
                CHECK.due(method + " is public, of objects", method.getModifiers(), Modifier.PUBLIC);
            }
        }
        if (!found.equals(new TreeSet<>(Arrays.asList(FACE)))) {
            CHECK.due("the face " + found, 0, 1);
        }
        CHECK.due("public final class", LeafTable.class.getModifiers(), Modifier.PUBLIC | Modifier.FINAL);
        Constructor<?>[] constructors = LeafTable.class.getDeclaredConstructors();
        CHECK.due("constructors", constructors.length, 1);
        CHECK.due("the constructor's parameters", constructors[0].getParameterCount(), 0);
        CHECK.due("the constructor is public", constructors[0].getModifiers(), Modifier.PUBLIC);
        int constants = 0;
        for (Field field : LeafTable.class.getDeclaredFields()) {
            constants += Modifier.isPrivate(field.getModifiers()) ? 0 : 1;
        }
        CHECK.due("constants", constants, 5);
    }

    private static void members(Class<?> one) {
        int fields = 0;
        for (Field field : one.getDeclaredFields()) {
            if (Modifier.isStatic(field.getModifiers())) {
                CHECK.due(field + " is final", Modifier.isFinal(field.getModifiers()) ? 1 : 0, 1);
            } else {
                fields++;
            }
        }
        CHECK.due(one + " has at most twenty fields", fields <= 20 ? 1 : 0, 1);
        for (Method method : one.getDeclaredMethods()) {
            CHECK.due(method + " has at most seven parameters", method.getParameterCount() <= 7 ? 1 : 0, 1);
        }
    }

    private static void noNameOfTheFace(Class<?> inside) {
        for (Method method : inside.getDeclaredMethods()) {
            for (String told : FACE) {
                boolean isFace = inside == LeafTable.class && Modifier.isPublic(method.getModifiers());
                String name = told.substring(told.indexOf(' ') + 1, told.indexOf('('));
                boolean isNamedSo = !isFace && name.equals(method.getName());
                CHECK.due(method + " is named as one of the face", isNamedSo ? 1 : 0, 0);
            }
        }
    }

    private static void words(String source) {
        String code = source.replaceAll("(?s)/\\*.*?\\*/", "").replaceAll("//[^\n]*", "");
        String[] forbidden = {"throw", "throws", "try", "catch", "finally", "synchronized", "assert", "import",
            "package", "protected", "->", "::", "Exact", "Object", "Exception", "System", "Random"};
        for (String word : forbidden) {
            boolean isWord = Character.isLetter(word.charAt(0));
            Matcher matcher = Pattern.compile(isWord ? "\\b" + word + "\\b" : word).matcher(code);
            CHECK.due("the code has " + word, matcher.find() ? 1 : 0, 0);
        }
        CHECK.due("classes inside", LeafTable.class.getDeclaredClasses().length <= 11 ? 1 : 0, 1);
    }
}
