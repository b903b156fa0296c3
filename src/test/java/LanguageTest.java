import java.io.IOException;
import java.lang.reflect.Field;
import java.lang.reflect.Method;
import java.lang.reflect.Modifier;
import java.nio.charset.StandardCharsets;
import java.nio.file.Files;
import java.nio.file.Path;
import java.util.ArrayList;
import java.util.HashSet;
import java.util.List;
import java.util.Set;
import java.util.regex.Matcher;
import java.util.regex.Pattern;

/** Those rules of ../shared/LANGUAGE.md that can be read off the program's text and its compiled classes. */
public final class LanguageTest {
    private static final Path PROGRAM = Path.of("src/main/java/NailedYears.java");
    private static final int MOST_CLASSES = 12, MOST_FIELDS = 20, MOST_PARAMETERS = 7, MOST_LINES = 60;

    /** Each a rule's number, what it rules out, and how that is found behind comments and texts taken away. */
    private static final String[][] RULED_OUT = {
        {"1", "a package line", "\\bpackage\\b"},
        {"2", "a lambda", "->"},
        {"2", "a method reference", "::"},
        {"3", "a type that is not listed", "\\b(Long|Boolean|Character|Object|Map|HashMap|Set|HashSet|Optional|var)\\b(?!\\.\\w+\\()"},
        {"4", "a library that is not listed", "\\bimport\\s+(?!java\\.util\\.(ArrayList|List|Arrays|Iterator|NoSuchElementException);)"},
        {"4", "a function that ends in Exact", "Exact\\s*\\("},
        {"4", "System but for arraycopy", "\\bSystem\\.(?!arraycopy)"},
        {"5", "a static initialiser", "\\bstatic\\s*\\{"},
        {"6", "a word that is ruled out", "\\b(finally|synchronized|assert|getMessage|Throwable|Error)\\b"},
        {"6", "an equals, hashCode or toString of its own", "\\b(boolean equals|int hashCode|String toString)\\b"},
        {"9", "a loop without a bound", "while\\s*\\(\\s*true\\s*\\)|for\\s*\\(\\s*;|;\\s*;"},
        {"10", "texts joined by +", "\"\\s*\\+|\\+\\s*\""},
        {"13", "what is outside the program", "\\b(Thread|Random|Runtime|Clock|Instant|File|Files|Path|URL|Socket)\\b"}};

    private static int wrong;

    public static void main(String[] args) throws IOException {
        String program = Files.readString(PROGRAM, StandardCharsets.US_ASCII);
        String bare = withoutCommentsAndTexts(program);
        for (String[] rule : RULED_OUT) {
            Matcher found = Pattern.compile(rule[2]).matcher(bare);
            while (found.find()) {
                fail(rule[0], rule[1] + ": " + found.group());
            }
        }
        methodsAreShort(program);
        classesAreSo();
        System.out.println(wrong == 0 ? "the language is kept" : wrong + " faults against the language");
        if (wrong != 0) {
            System.exit(1);
        }
    }

    private static void fail(String rule, String how) {
        wrong++;
        System.out.println("rule " + rule + ": " + how);
    }

    private static String withoutCommentsAndTexts(String program) {
        String bare = program.replaceAll("(?s)/\\*.*?\\*/", " ").replaceAll("//[^\n]*", " ");
        return bare.replaceAll("\"(\\\\.|[^\"\\\\])*\"", "\"\"").replaceAll("'(\\\\.|[^'\\\\])'", "' '");
    }

    /** A method begins with a line of 4 or 8 spaces that ends in ) {, and ends with the brace below its beginning. */
    private static void methodsAreShort(String program) {
        String[] lines = program.split("\n");
        for (int from = 0; from < lines.length; from++) {
            if (lines[from].matches("( {4}| {8})(?!if|for|while|switch)\\S[^=]*\\) \\{")) {
                String end = lines[from].replaceAll("\\S.*", "") + "}";
                int to = from;
                while (to < lines.length && !lines[to].equals(end)) {
                    to++;
                }
                if (to - from >= MOST_LINES) {
                    fail("11", "a method of " + (to - from + 1) + " lines: " + lines[from].trim());
                }
            }
        }
    }

    private static void classesAreSo() {
        List<Class<?>> classes = new ArrayList<>(List.of(NailedYears.class));
        for (int k = 0; k < classes.size(); k++) {
            classes.addAll(List.of(classes.get(k).getDeclaredClasses()));
        }
        if (classes.size() > MOST_CLASSES) {
            fail("11", classes.size() + " classes");
        }
        for (Class<?> one : classes) {
            int modifiers = one.getModifiers();
            if (one != NailedYears.class && (Modifier.isPublic(modifiers) || Modifier.isProtected(modifiers))) {
                fail("1", one.getName() + " is seen from outside");
            }
            fieldsAreSo(one);
            parametersAreFew(one);
        }
        namesArePrivateOrPublic();
    }

    private static void fieldsAreSo(Class<?> one) {
        int fields = 0;
        for (Field field : one.getDeclaredFields()) {
            if (!Modifier.isStatic(field.getModifiers())) {
                fields++;
            } else if (!Modifier.isFinal(field.getModifiers())) {
                fail("5", field + " is not final");
            }
        }
        if (fields > MOST_FIELDS) {
            fail("11", one.getName() + " has " + fields + " fields");
        }
    }

    private static void parametersAreFew(Class<?> one) {
        for (Method method : one.getDeclaredMethods()) {
            if (method.getParameterCount() > MOST_PARAMETERS) {
                fail("11", method + " has " + method.getParameterCount() + " parameters");
            }
        }
    }

    private static void namesArePrivateOrPublic() {
        Set<String> face = new HashSet<>();
        for (Method method : NailedYears.class.getMethods()) {
            face.add(method.getName());
        }
        for (Method method : NailedYears.class.getDeclaredMethods()) {
            if (!Modifier.isPublic(method.getModifiers()) && face.contains(method.getName())) {
                fail("1", method + " bears the name of a public one");
            }
        }
    }
}
