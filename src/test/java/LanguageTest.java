import java.io.IOException;
import java.lang.reflect.Constructor;
import java.lang.reflect.Field;
import java.lang.reflect.Method;
import java.lang.reflect.Modifier;
import java.nio.file.Files;
import java.nio.file.Path;
import java.util.ArrayList;
import java.util.List;
import java.util.TreeSet;
import java.util.regex.Matcher;
import java.util.regex.Pattern;

/** What of ../shared/LANGUAGE.md can be seen in the source and in the compiled class; and the document's face. */
public final class LanguageTest {
    private static final Path SOURCE = Path.of("src/main/java/PetalPictures.java");

    private static final String[] FACE = {
        "int row(int, int, int)", "int set(int, int, long)", "int copy(int, int, int, int, int)",
        "long element(int, int)", "int show(int, int)", "int holds(int)", "int says(int, int)",
        "int stuff(int, int, int)", "int stuffOf(int, int)", "int cell(int, int)", "int cellOf(int, int)",
        "int plan(int, int)", "int village(int)", "int fault()", "int may(int)", "int lay(int, int)",
        "int strip(int)", "int spray()", "int side(int)", "int hours(int)", "int fresh(int, int)",
        "int beauty(int, int)", "int looks(int)", "int worst(int, int)", "int all(int, int)",
        "int best(int, int, int, int)", "int turn(int, int)", "int next()", "int done(int)", "int women(int)",
        "int dry()", "int sprayings(int)", "int was(int, int, int, int)", "int age(int, int)", "int lacking()",
        "int wrong()", "int judge(int, int)", "int days(int)", "int seed(int)", "int act(int, int, int)",
        "int trace(int)", "int image()", "int restore()", "int status(int)",
    };

    /** Words and signs that the rules leave out, as patterns over the source without comments and texts. */
    private static final String[] FORBIDDEN = {
        "\\bthrow\\b", "\\bthrows\\b", "\\btry\\b", "\\bcatch\\b", "\\bsynchronized\\b", "\\bassert\\b", "->", "::",
        "\\bthis\\.getClass\\b", "\\bclass\\b\\s*\\.", "\\bString\\.\\w+\\(", "\\bSystem\\.(?!arraycopy\\b)", "Exact\\b",
        "\\bMath\\.(?!max\\b|min\\b|abs\\b|floorDiv\\b|floorMod\\b)", "\\bThread\\b", "\\bRandom\\b", "\\bnative\\b",
        "\\bvar\\b", "\\byield\\b", "\\bvolatile\\b", "\\btransient\\b", "\\bdouble\\b", "\\bfloat\\b", "\\bprotected\\b",
        "\\bhashCode\\b", "\\btoString\\b", "\\bObject\\b", "\\benum\\b\\s*\\{", "@", "while \\(true\\)", "for \\(;;\\)",
        "static \\{", "[^-\\w\\s(]\\s*\\+\\s*\"",
    };

    public static void main(String[] args) throws IOException {
        String source = Files.readString(SOURCE);
        String bare = withoutCommentsAndTexts(source);
        forbidden(bare);
        methods(bare);
        face();
        List<Class<?>> classes = new ArrayList<>();
        collect(PetalPictures.class, classes);
        Check.due("twelve classes at most", classes.size() <= 12 ? 1 : 0, 1);
        for (Class<?> one : classes) {
            fields(one);
            privateNames(one);
        }
        Check.end();
    }

    private static String withoutCommentsAndTexts(String source) {
        String bare = source.replaceAll("(?s)/\\*.*?\\*/", " ").replaceAll("//[^\n]*", " ");
        return bare.replaceAll("\"[^\"\n]*\"", "\"\"").replaceAll("'[^'\n]+'", "' '");
    }

    private static void forbidden(String bare) {
        for (String pattern : FORBIDDEN) {
            Matcher matcher = Pattern.compile(pattern).matcher(bare);
            if (matcher.find()) {
                Check.fail("the source has " + pattern + ": " + matcher.group());
            }
        }
        Matcher imports = Pattern.compile("(?m)^import ([^;]*);").matcher(bare);
        while (imports.find()) {
            if (!imports.group(1).matches("java\\.util\\.(Arrays|ArrayList|List)")) {
                Check.fail("the source imports " + imports.group(1));
            }
        }
        for (int i = 0; i < bare.length(); i++) {
            if (bare.charAt(i) > 126) {
                Check.fail("a sign of number " + (int) bare.charAt(i));
            }
        }
    }

    /** No method is longer than sixty lines or has more than seven parameters. */
    private static void methods(String bare) {
        String[] lines = bare.split("\n");
        Pattern head = Pattern.compile("^ {4,8}(?:\\w+ )*[\\w\\[\\]]+ ?\\w*\\(([^)]*)\\) \\{$");
        int found = 0;
        for (int i = 0; i < lines.length; i++) {
            Matcher matcher = head.matcher(lines[i]);
            if (!matcher.matches() || lines[i].contains("return ")) {
                continue;
            }
            found++;
            String indent = lines[i].substring(0, lines[i].indexOf(lines[i].trim()));
            int end = i;
            while (end < lines.length - 1 && !lines[end].equals(indent + "}")) {
                end++;
            }
            if (end - i + 1 > 60) {
                Check.fail("a method of " + (end - i + 1) + " lines: " + lines[i].trim());
            }
            if (matcher.group(1).split(",").length > 7) {
                Check.fail("more than seven parameters: " + lines[i].trim());
            }
        }
        Check.due("methods were found", found > FACE.length ? 1 : 0, 1);
    }

    private static String told(Method method) {
        StringBuilder text = new StringBuilder(method.getReturnType().getName() + " " + method.getName() + "(");
        Class<?>[] types = method.getParameterTypes();
        for (int i = 0; i < types.length; i++) {
            text.append(i == 0 ? "" : ", ").append(types[i].getName());
        }
        return text.append(")").toString();
    }

    private static void face() {
        Class<?> face = PetalPictures.class;
        Check.due("public and final", face.getModifiers() & (Modifier.PUBLIC | Modifier.FINAL), 17);
        TreeSet<String> wanted = new TreeSet<>(List.of(FACE));
        TreeSet<String> had = new TreeSet<>();
        for (Method method : face.getDeclaredMethods()) {
            int kind = method.getModifiers();
            if (Modifier.isPublic(kind) && !Modifier.isStatic(kind)) {
                had.add(told(method));
            } else if (!Modifier.isPrivate(kind)) {
                Check.fail("no method of the document: " + method);
            }
        }
        if (!wanted.equals(had)) {
            Check.fail("the face is " + had);
        }
        Constructor<?>[] constructors = face.getDeclaredConstructors();
        Check.due("constructors", constructors.length, 1);
        Check.due("public constructor", constructors[0].getModifiers(), Modifier.PUBLIC);
        Check.due("constructor's parameters", constructors[0].getParameterCount(), 0);
        Check.due("NONE", PetalPictures.NONE, -1);
    }

    private static void collect(Class<?> one, List<Class<?>> classes) {
        classes.add(one);
        for (Class<?> inside : one.getDeclaredClasses()) {
            int kind = inside.getModifiers();
            if (!Modifier.isStatic(kind) || Modifier.isPublic(kind) || Modifier.isProtected(kind)) {
                Check.fail("not static, or not private: " + inside);
            }
            collect(inside, classes);
        }
    }

    private static void fields(Class<?> one) {
        int own = 0;
        for (Field field : one.getDeclaredFields()) {
            int kind = field.getModifiers();
            Class<?> type = field.getType();
            if (Modifier.isStatic(kind)) {
                boolean allowed = List.of(int.class, long.class, boolean.class, char.class, String.class, int[].class,
                    long[].class, char[].class, byte[].class).contains(type);
                if (!Modifier.isFinal(kind) || !allowed) {
                    Check.fail("static state: " + field);
                }
            } else {
                own++;
            }
            boolean isNone = field.getName().equals("NONE");
            if (one == PetalPictures.class && Modifier.isPrivate(kind) == isNone) {
                Check.fail("no field of the document: " + field);
            }
        }
        if (own > 20) {
            Check.fail(own + " fields in " + one);
        }
    }

    /** No private method, of any class here, bears the name of a public one. */
    private static void privateNames(Class<?> one) {
        for (Method method : one.getDeclaredMethods()) {
            if (!Modifier.isPrivate(method.getModifiers())) {
                continue;
            }
            for (String told : FACE) {
                if (told.contains(" " + method.getName() + "(")) {
                    Check.fail("a private method has a public one's name: " + method);
                }
            }
        }
    }
}
