import java.io.IOException;
import java.lang.reflect.Constructor;
import java.lang.reflect.Field;
import java.lang.reflect.Method;
import java.lang.reflect.Modifier;
import java.nio.file.Files;
import java.nio.file.Path;
import java.util.ArrayList;
import java.util.List;
import java.util.regex.Matcher;
import java.util.regex.Pattern;

/** The public face as the document writes it, and rules of LANGUAGE.md that can be read off the source. */
public final class FaceTest {
    private static final String[] FACE = {
        "public void put(int,int,long,int) throws IllegalArgumentException,IndexOutOfBoundsException",
        "public int feed(boolean,long,int) throws IllegalArgumentException,IllegalStateException",
        "public void clear(boolean)",
        "public int move(int) throws IllegalArgumentException",
        "public int look(int,int) throws IllegalArgumentException,IndexOutOfBoundsException",
        "public int size()",
        "public void hash(boolean,int) throws IllegalArgumentException",
        "public boolean agree(int,boolean) throws IllegalArgumentException",
        "public void derive(int) throws IllegalArgumentException",
        "public void sign(int,boolean) throws IllegalArgumentException",
        "public boolean verify(int,boolean) throws IllegalArgumentException",
        "public boolean point(int,int) throws IllegalArgumentException",
        "public void add(int,int,int,boolean) throws IllegalArgumentException,IllegalStateException",
        "public void times(int,int) throws IllegalArgumentException",
        "public void code(int) throws IllegalArgumentException",
        "public boolean same(int,int) throws IllegalArgumentException",
        "public int order(int,int) throws IllegalArgumentException",
    };

    /** What the rules leave out, as it would stand in the source. */
    private static final String[] RULED_OUT = {
        "->", "::", "\\bsynchronized\\b", "\\bassert\\b", "\\bfinally\\b", "\\btry\\b", "\\bprotected\\b", "\\bpackage\\b",
        "static\\s*\\{", "Exact\\b", "\\bBigInteger\\b", "\\bSystem\\.(?!arraycopy\\b)", "\\bdouble\\b", "\\bfloat\\b",
        "\"\\s*\\+|\\+\\s*\"", "\\bimport (?!java\\.util\\.Arrays;)", "\\bjavax?\\.(?!util\\.Arrays;)",
    };

    public static void main(String[] args) throws IOException {
        face();
        nested();
        source();
        Check.finish();
    }

    private static void face() {
        Class<?> type = CurveSuite.class;
        Check.same("public final", Modifier.PUBLIC | Modifier.FINAL, type.getModifiers());
        Constructor<?>[] constructors = type.getDeclaredConstructors();
        Check.same("one constructor", 1, constructors.length);
        Check.same("of no parameter", 0, constructors[0].getParameterCount());
        Check.same("public", Modifier.PUBLIC, constructors[0].getModifiers());
        List<String> got = new ArrayList<>();
        for (Method method : type.getDeclaredMethods()) {
            if (!Modifier.isPrivate(method.getModifiers())) {
                got.add(method.toGenericString().replace("CurveSuite.", "").replace("java.lang.", ""));
            }
        }
        for (String due : FACE) {
            Check.same(due, true, got.remove(due));
        }
        Check.same("no more than " + got, 0, got.size());
        for (Field field : type.getDeclaredFields()) {
            Check.same("private: " + field, true, Modifier.isPrivate(field.getModifiers()));
            checkStatic(field);
        }
    }

    private static void nested() {
        Class<?>[] all = CurveSuite.class.getDeclaredClasses();
        Check.same("some twelve classes", true, all.length < 12);
        for (Class<?> type : all) {
            Check.same("static: " + type, true, Modifier.isStatic(type.getModifiers()));
            Check.same("private: " + type, true, Modifier.isPrivate(type.getModifiers()));
            int fields = 0;
            for (Field field : type.getDeclaredFields()) {
                checkStatic(field);
                fields += Modifier.isStatic(field.getModifiers()) ? 0 : 1;
            }
            Check.same("some twenty fields: " + type, true, fields <= 20);
            for (Method method : type.getDeclaredMethods()) {
                Check.same("at most seven parameters: " + method, true, method.getParameterCount() <= 7);
            }
        }
    }

    private static void checkStatic(Field field) {
        if (Modifier.isStatic(field.getModifiers())) {
            Check.same("final: " + field, true, Modifier.isFinal(field.getModifiers()));
        }
    }

    private static void source() throws IOException {
        String whole = Files.readString(Path.of("src/main/java/CurveSuite.java"));
        String bare = whole.replaceAll("(?s)/\\*.*?\\*/", "").replaceAll("//[^\n]*", "");
        for (String pattern : RULED_OUT) {
            Matcher matcher = Pattern.compile(pattern).matcher(bare);
            Check.same("ruled out: " + pattern, false, matcher.find());
        }
        for (String line : FACE) {
            String name = line.replaceAll("^public \\w+ (\\w+)\\(.*$", "$1");
            Matcher matcher = Pattern.compile("(?m)^ +(?:(?:private|static|final) )*[\\w\\[\\]]+ " + name + "\\([^;]*\\{$")
                    .matcher(bare.replaceAll("public [\\w]+ " + name + "\\(", "("));
            Check.same("no other method of the name " + name, false, matcher.find());
        }
        for (char letter : whole.toCharArray()) {
            Check.same("characters 0 to 127 alone", true, letter < 128);
        }
    }
}
