import java.io.IOException;
import java.lang.reflect.Constructor;
import java.lang.reflect.Field;
import java.lang.reflect.Method;
import java.lang.reflect.Modifier;
import java.nio.file.Files;
import java.nio.file.Path;
import java.util.ArrayList;
import java.util.Arrays;
import java.util.List;
import java.util.Set;
import java.util.TreeSet;
import java.util.regex.Matcher;
import java.util.regex.Pattern;

/** The public face as the document writes it, and the rules of LANGUAGE.md that can be read off the text. */
public final class LanguageTest {
    private static final Path SOURCE = Path.of("src", "main", "java", "FountainCues.java");
    private static final String FACE = """
        int jet(int,int,int) IndexOutOfBoundsException IllegalArgumentException
        int aim(int,int) IndexOutOfBoundsException IllegalArgumentException
        int pump(int,int) IndexOutOfBoundsException IllegalArgumentException
        int wind(int) IllegalArgumentException
        int fill(int) IllegalArgumentException IllegalStateException
        int set(int,int) IndexOutOfBoundsException IllegalArgumentException
        int cue(int,int,int) IndexOutOfBoundsException IllegalArgumentException IllegalStateException
        int drop(int) IndexOutOfBoundsException
        int play(int) IllegalArgumentException
        int append(int) IllegalArgumentException IllegalStateException
        int clearBuffer()
        int firstError()
        int cueAll() IllegalArgumentException
        int undo() IllegalStateException
        int jetOf(int,int) IndexOutOfBoundsException IllegalArgumentException
        int pumpOf(int,int) IndexOutOfBoundsException IllegalArgumentException
        int cueOf(int,int) IllegalArgumentException
        int count(int) IllegalArgumentException
        int setting(int) IndexOutOfBoundsException
        int refusal(int,int,int) IndexOutOfBoundsException IllegalArgumentException
        int ifPlayed(int,int) IllegalArgumentException
        int mostAim(int,int) IndexOutOfBoundsException IllegalArgumentException
        int fits(int,int,int) IndexOutOfBoundsException IllegalArgumentException
        int dryIn()
        double share()
        long digest()
        """;

    private LanguageTest() {
    }

    public static void main(String[] args) throws IOException {
        face();
        membersThatAreNotOfTheFace();
        fields();
        String code = withoutComments(Files.readString(SOURCE));
        words(code);
        library(code);
        Checks.close("LanguageTest");
    }

    private static void face() {
        Set<String> want = new TreeSet<>(Arrays.asList(FACE.split("\n")));
        Set<String> got = new TreeSet<>();
        for (Method method : FountainCues.class.getDeclaredMethods()) {
            if (Modifier.isPublic(method.getModifiers())) {
                got.add(signature(method));
            }
        }
        Checks.due("the face", got, want);
        Checks.due("the class is final", Modifier.isFinal(FountainCues.class.getModifiers()), true);
        Constructor<?>[] constructors = FountainCues.class.getDeclaredConstructors();
        Checks.due("one constructor", constructors.length, 1);
        Checks.due("it is public", Modifier.isPublic(constructors[0].getModifiers()), true);
        Checks.due("it takes nothing", constructors[0].getParameterCount(), 0);
    }

    private static String signature(Method method) {
        List<String> parameters = new ArrayList<>();
        for (Class<?> parameter : method.getParameterTypes()) {
            parameters.add(parameter.getSimpleName());
        }
        StringBuilder text = new StringBuilder(method.getReturnType().getSimpleName() + " " + method.getName());
        text.append("(").append(String.join(",", parameters)).append(")");
        for (Class<?> exception : method.getExceptionTypes()) {
            text.append(" ").append(exception.getSimpleName());
        }
        return text.toString();
    }

    private static void membersThatAreNotOfTheFace() {
        Set<String> face = new TreeSet<>();
        List<Method> others = new ArrayList<>();
        for (Method method : FountainCues.class.getDeclaredMethods()) {
            if (Modifier.isPublic(method.getModifiers())) {
                face.add(method.getName());
            } else {
                others.add(method);
                Checks.due(method + " is private", Modifier.isPrivate(method.getModifiers()), true);
            }
        }
        for (Class<?> inside : FountainCues.class.getDeclaredClasses()) {
            Checks.due(inside + " is static", Modifier.isStatic(inside.getModifiers()), true);
            Checks.due(inside + " is public", Modifier.isPublic(inside.getModifiers()), false);
            Checks.due(inside + " has few fields", inside.getDeclaredFields().length <= 20, true);
            others.addAll(Arrays.asList(inside.getDeclaredMethods()));
        }
        for (Method method : others) {
            Checks.due(method + " bears a name of the face", face.contains(method.getName()), false);
            Checks.due(method + " has few parameters", method.getParameterCount() <= 7, true);
        }
    }

    private static void fields() {
        for (Field field : FountainCues.class.getDeclaredFields()) {
            int modifiers = field.getModifiers();
            boolean isConstant = field.getName().equals("NONE");
            Checks.due(field + " is public", Modifier.isPublic(modifiers), isConstant);
            Checks.due(field + " is private", Modifier.isPrivate(modifiers), !isConstant);
            Checks.due(field + " is final", Modifier.isFinal(modifiers), true);
        }
    }

    private static String withoutComments(String source) {
        return source.replaceAll("(?s)/\\*.*?\\*/", "").replaceAll("//[^\n]*", "");
    }

    private static void words(String code) {
        String[] forbidden = {"\\bimport\\b", "\\bpackage\\b", "->", "::", "\\bfinally\\b", "\\bcatch\\b", "\\bassert\\b",
            "\\bsynchronized\\b", "\\bnative\\b", "Exact\\b", "\\bDouble\\b", "\\bFloat\\b", "\\bString\\b", "\\bSystem\\b",
            "\\bequals\\b", "\\bhashCode\\b", "\\btoString\\b", "\\bwhile \\(true\\)", "for \\(;;", "[^\\x00-\\x7f]"};
        for (String word : forbidden) {
            Checks.due("the program holds " + word, Pattern.compile(word).matcher(code).find(), false);
        }
    }

    private static void library(String code) {
        Set<String> allowed = Set.of("Math.min", "Math.max");
        Matcher calls = Pattern.compile("\\b(Math|Integer|Long|Arrays|Character|Boolean)\\.\\w+").matcher(code);
        while (calls.find()) {
            Checks.due("the library has " + calls.group(), allowed.contains(calls.group()), true);
        }
        Set<String> exceptions = Set.of("IllegalStateException", "IllegalArgumentException", "IndexOutOfBoundsException");
        Matcher thrown = Pattern.compile("throw new (\\w+)\\((\"[^\"]*\")?\\);").matcher(code);
        int count = 0;
        while (thrown.find()) {
            count++;
            Checks.due("throw of " + thrown.group(1), exceptions.contains(thrown.group(1)), true);
        }
        Checks.due("each throw is of a written text", code.split("\\bthrow\\b", -1).length - 1, count);
    }
}
