import java.lang.reflect.Constructor;
import java.lang.reflect.Field;
import java.lang.reflect.Method;
import java.lang.reflect.Modifier;
import java.nio.charset.StandardCharsets;
import java.nio.file.Files;
import java.nio.file.Path;
import java.util.ArrayList;
import java.util.List;
import java.util.Set;
import java.util.TreeSet;
import java.util.regex.Matcher;
import java.util.regex.Pattern;

/** The face of the document, and those rules of ../shared/LANGUAGE.md that can be seen from outside. */
final class LanguageTests {
    private static final String FACE = """
            feed(int,int,int,int,int)int IllegalStateException
            truncate(int)int IllegalArgumentException
            readText()int IllegalArgumentException
            runScript()int IllegalArgumentException
            errorCode()int
            errorPosition()int
            setting(int)int IllegalArgumentException
            letter(int,int)int IndexOutOfBoundsException
            car(int,int)int IndexOutOfBoundsException IllegalArgumentException
            who(int)int IndexOutOfBoundsException
            wanted(int)int IndexOutOfBoundsException
            ranked(int)int
            spotByLine(int)int IndexOutOfBoundsException
            gap()int
            isParking()boolean
            breakAt(int)int
            whoAfter(int,int)int IndexOutOfBoundsException IllegalArgumentException
            longestAfter(int)int IllegalArgumentException
            inWay(int)int IllegalArgumentException
            fibre()long
            arrangements()long
            all()long
            inversions()int
            descents()int
            code(int)int
            edge(int)int
            degree(int)int IndexOutOfBoundsException
            far(int,int)int IndexOutOfBoundsException
            wide()int
            leaves()int
            codeGap()int
            meanWay()double
            luckyShare()float
            spotIf(int,int)int IndexOutOfBoundsException IllegalArgumentException
            settingIf(int,int,int)int IndexOutOfBoundsException IllegalArgumentException
            bestFor(int)int IndexOutOfBoundsException
            latest(int)int IndexOutOfBoundsException
            wayBy(int)int IllegalArgumentException
            bestBack()int
            prefer(int,int)int IndexOutOfBoundsException IllegalArgumentException
            swap(int)boolean IndexOutOfBoundsException
            turn(int)int IllegalArgumentException
            setBack(int)int IllegalArgumentException
            come(int)boolean IllegalArgumentException
            go(int)boolean IndexOutOfBoundsException
            sort()int
            reverse()int
            refusal()int
            account(int)int IllegalArgumentException
            undo()int
            report()int
            reportByte(int)int IndexOutOfBoundsException
            save()int
            restore()int IllegalStateException
            """;
    private static final int MOST_LINES = 60;
    private static final int MOST_PARAMETERS = 7;
    private static final int MOST_CLASSES = 12;
    private static final int MOST_FIELDS = 20;
    /** Words and signs that the rules leave out; comments and texts are taken away before. */
    private static final String[] FORBIDDEN = {"->", "::", "\\bcatch\\b", "\\btry\\b", "\\bfinally\\b", "\\bsynchronized\\b",
        "\\bassert\\b", "\\bvar\\b", "\\bextends\\b", "\\bwhile\\s*\\(\\s*true", "for\\s*\\(\\s*;", "Exact\\s*\\(", "\\bObject\\b",
        "\\bHashMap\\b", "\\bRandom\\b", "\\bSystem\\.(?!arraycopy)", "\\bThread\\b", "\\bvolatile\\b", "\\bnative\\b",
        "\\btransient\\b", "@", "\\byield\\b", "\\bgetClass\\b", "\\btoString\\b", "\\bhashCode\\b", "\\bstatic\\s*\\{"};

    private LanguageTests() {
    }

    static void all(Check check, String program) {
        check.test("the face is that of the document", LanguageTests::face);
        check.test("LANGUAGE.md, rules 1, 5 and 11: members", LanguageTests::members);
        check.test("LANGUAGE.md, rules 3, 4, 6 and 10: words", c -> words(c, program));
        check.test("LANGUAGE.md, rule 11: short methods", c -> shortMethods(c, program));
    }

    private static void face(Check check) {
        Set<String> due = new TreeSet<>(List.of(FACE.split("\n")));
        Set<String> got = new TreeSet<>();
        for (Method method : RandomRunTests.face()) {
            StringBuilder told = new StringBuilder(method.getName()).append('(');
            for (Class<?> type : method.getParameterTypes()) {
                told.append(told.charAt(told.length() - 1) == '(' ? "" : ",").append(type.getSimpleName());
            }
            told.append(')').append(method.getReturnType().getSimpleName());
            for (Class<?> type : method.getExceptionTypes()) {
                told.append(' ').append(type.getSimpleName());
            }
            got.add(told.toString());
        }
        check.same("the face", got.toString(), due.toString());
        check.same("NONE", ParkingCircle.NONE, -1);
        check.same("final", Modifier.isFinal(ParkingCircle.class.getModifiers()), true);
        check.same("public", Modifier.isPublic(ParkingCircle.class.getModifiers()), true);
    }

    private static void members(Check check) {
        Set<String> names = new TreeSet<>();
        for (Method method : RandomRunTests.face()) {
            names.add(method.getName());
        }
        for (Method method : ParkingCircle.class.getDeclaredMethods()) {
            int how = method.getModifiers();
            check.same("access of " + method, Modifier.isPublic(how) || Modifier.isPrivate(how), true);
            check.same("a public name of " + method, names.contains(method.getName()), Modifier.isPublic(how));
        }
        for (Constructor<?> constructor : ParkingCircle.class.getDeclaredConstructors()) {
            check.same("constructor", constructor.toString(), "public ParkingCircle()");
        }
        for (Field field : ParkingCircle.class.getDeclaredFields()) {
            check.same("access of " + field, Modifier.isPrivate(field.getModifiers()), !field.getName().equals("NONE"));
        }
        List<Class<?>> classes = new ArrayList<>(List.of(ParkingCircle.class.getDeclaredClasses()));
        classes.add(ParkingCircle.class);
        check.same("classes", classes.size() <= MOST_CLASSES, true);
        for (Class<?> one : classes) {
            int fields = 0;
            for (Field field : one.getDeclaredFields()) {
                boolean isStatic = Modifier.isStatic(field.getModifiers());
                fields += isStatic ? 0 : 1;
                check.same("final " + field, !isStatic || Modifier.isFinal(field.getModifiers()), true);
            }
            check.same("fields of " + one, fields <= MOST_FIELDS, true);
            for (Method method : one.getDeclaredMethods()) {
                check.same("parameters of " + method, method.getParameterCount() <= MOST_PARAMETERS, true);
            }
        }
    }

    private static String source(String program) throws java.io.IOException {
        return Files.readString(Path.of(program), StandardCharsets.US_ASCII);
    }

    /** The program without comments, and with empty texts. */
    private static String bare(String source) {
        return source.replaceAll("(?s)/\\*.*?\\*/", "").replaceAll("//[^\n]*", "").replaceAll("\"(\\\\.|[^\"\\\\])*\"", "\"\"");
    }

    private static void words(Check check, String program) throws java.io.IOException {
        String bare = bare(source(program));
        for (String word : FORBIDDEN) {
            Matcher found = Pattern.compile(word).matcher(bare);
            if (found.find()) {
                check.tell("left out by the rules: " + found.group());
            }
        }
        Matcher imports = Pattern.compile("import ([^;]*);").matcher(bare);
        while (imports.find()) {
            check.same("import", imports.group(1), "java.util.Arrays");
        }
        Matcher thrown = Pattern.compile("throw new (\\w+)\\(\"\"\\);|throw ").matcher(bare);
        while (thrown.find()) {
            check.same("exception of " + thrown.group(), List.of("IllegalStateException", "IllegalArgumentException",
                    "IndexOutOfBoundsException").contains(String.valueOf(thrown.group(1))), true);
        }
        Matcher joined = Pattern.compile("\"\"\\s*\\+|\\+\\s*\"\"").matcher(bare);
        check.same("texts joined by +", joined.find(), false);
    }

    /** A method begins and ends at the fourth or the eighth column. */
    private static void shortMethods(Check check, String program) throws java.io.IOException {
        String[] lines = source(program).split("\n");
        int begin = -1;
        for (int i = 0; i < lines.length; i++) {
            if (lines[i].matches(" {4}( {4})?[A-Za-z].*\\) ?(throws .*)?\\{")) {
                begin = i;
            } else if (begin >= 0 && lines[i].matches(" {4}( {4})?\\}") && lines[i].length() <= 9) {
                check.same("lines of " + lines[begin].trim(), i - begin < MOST_LINES, true);
            }
        }
    }
}
