import java.io.IOException;
import java.lang.reflect.Constructor;
import java.lang.reflect.Field;
import java.lang.reflect.Method;
import java.lang.reflect.Modifier;
import java.nio.charset.StandardCharsets;
import java.nio.file.Files;
import java.nio.file.Path;
import java.util.ArrayList;
import java.util.List;
import java.util.Set;
import java.util.TreeSet;
import java.util.regex.Matcher;
import java.util.regex.Pattern;

/** The face of the class as the document has it, and rules of LANGUAGE.md that can be read off the file. */
public final class LanguageTests {
    private static final String[] FACE = {
        "int feed(int, int, int, int, int)", "int tell(int)", "int fault(int)", "int over(int, int)",
        "int takes(int, int)", "int hand(int, int)", "int weigh(int, int)", "int undo()", "int stroke(int, int)",
        "int crossing(int, int)", "int ring(int)", "int order(int)", "long orders()", "long ahead(int, int)",
        "int ways()", "int layers()", "int top(int, int)", "int seen(int, int)", "int shows(int, int)",
        "int fits(int)", "int sure(int)", "int odds(int, int)", "int guess(int)", "int words(int, int)",
        "int likely(int)", "int reads(int)", "int letter(int, int)", "long asking(int)", "int loose(int)",
        "int scrape()", "int clearer(int, int)", "long span(int, int)", "int paired(int, int)",
        "int likelihood(int, int)", "int spoilt(int, int)", "int row(int, int, int)", "int write(int, int, int)",
        "int paste(int, int, int, int, int)", "long mending(int, int)", "int judge(int)", "int count(int)"};
    private static int wrong = 0;

    private static void expect(boolean holds, String what) {
        if (!holds) {
            wrong++;
            System.out.println("language: " + what);
        }
    }

    private static String signature(Method method) {
        List<String> types = new ArrayList<>();
        for (Class<?> type : method.getParameterTypes()) {
            types.add(type.getSimpleName());
        }
        return method.getReturnType().getSimpleName() + " " + method.getName() + "(" + String.join(", ", types) + ")";
    }

    private static void face() {
        Set<String> found = new TreeSet<>();
        Set<String> names = new TreeSet<>();
        for (Method method : TwoHands.class.getDeclaredMethods()) {
            if (Modifier.isPrivate(method.getModifiers())) {
                continue;
            }
            if (!method.isSynthetic()) {
                expect(Modifier.isPublic(method.getModifiers()), "rule 1: " + signature(method) + " is neither public nor private");
                found.add(signature(method));
                names.add(method.getName());
            }
        }
        expect(found.equals(new TreeSet<>(List.of(FACE))), "rule 1: the face is " + found);
        for (Class<?> type : classes()) {
            for (Method method : type.getDeclaredMethods()) {
                boolean isFace = type == TwoHands.class && Modifier.isPublic(method.getModifiers());
                expect(isFace || !names.contains(method.getName()), "rule 1: " + type + " has its own " + method.getName());
                expect(method.getParameterCount() <= 7, "rule 11: parameters of " + method.getName());
            }
        }
        for (Field field : TwoHands.class.getDeclaredFields()) {
            boolean isNone = field.getName().equals("NONE") && Modifier.isPublic(field.getModifiers());
            expect(isNone || Modifier.isPrivate(field.getModifiers()), "rule 1: the field " + field.getName());
        }
        Constructor<?>[] constructors = TwoHands.class.getDeclaredConstructors();
        expect(constructors.length == 1 && constructors[0].getParameterCount() == 0, "rule 1: the constructors");
        expect(Modifier.isFinal(TwoHands.class.getModifiers()), "rule 1: the class is not final");
    }

    private static List<Class<?>> classes() {
        List<Class<?>> all = new ArrayList<>(List.of(TwoHands.class.getDeclaredClasses()));
        all.add(TwoHands.class);
        return all;
    }

    private static void classRules() {
        expect(classes().size() <= 12, "rule 11: " + classes().size() + " classes");
        for (Class<?> type : classes()) {
            expect(type == TwoHands.class || Modifier.isStatic(type.getModifiers()), "rule 2: " + type + " is not static");
            int fields = 0;
            for (Field field : type.getDeclaredFields()) {
                boolean isStatic = Modifier.isStatic(field.getModifiers());
                expect(!isStatic || Modifier.isFinal(field.getModifiers()), "rule 5: " + field + " is not final");
                fields += isStatic ? 0 : 1;
            }
            expect(fields <= 20, "rule 11: " + type + " has " + fields + " fields");
        }
    }

    private static void sourceRules(String source) {
        String code = source.replaceAll("(?s)/\\*.*?\\*/", "").replaceAll("//[^\n]*", "");
        String[] refused = {"throw", "throws", "try", "catch", "finally", "synchronized", "assert", "import", "package",
            "var", "Object", "System\\.(?!arraycopy)", "Float", "Double", "hashCode", "toString", "Exact", "->", "::",
            "static \\{", "Exception", "Random", "Thread"};
        for (String word : refused) {
            boolean isWord = Character.isLetter(word.charAt(0));
            Matcher matcher = Pattern.compile(isWord ? "\\b" + word : word).matcher(code);
            while (matcher.find()) {
                String rest = code.substring(matcher.end());
                boolean goesOn = isWord && !rest.isEmpty() && Character.isJavaIdentifierPart(rest.charAt(0));
                expect(goesOn, "rules 4 to 6, 13: '" + word + "' stands in the file");
            }
        }
        expect(source.chars().allMatch(sign -> sign < 128), "rule 4: a sign above 127");
        expect(!Pattern.compile("\"[^\"\n]*\"\\s*\\+|\\+\\s*\"").matcher(code).find(), "rule 10: texts joined by +");
    }

    private static void methodLengths(String source) {
        String[] lines = source.split("\n");
        for (int i = 0; i < lines.length; i++) {
            Matcher head = Pattern.compile("^( +)[^ ].*\\) \\{$").matcher(lines[i]);
            boolean isMethod = head.matches() && !lines[i].matches(" *(if|for|while|switch|\\}|else).*");
            if (isMethod) {
                int end = i + 1;
                while (end < lines.length && !lines[end].equals(head.group(1) + "}")) {
                    end++;
                }
                expect(end - i < 60, "rule 11: the method at line " + (i + 1) + " is long");
            }
        }
    }

    public static void main(String[] args) throws IOException {
        String source = Files.readString(Path.of("src/main/java/TwoHands.java"), StandardCharsets.UTF_8);
        face();
        classRules();
        sourceRules(source);
        methodLengths(source);
        System.out.println("language: " + wrong + " faults");
        if (wrong != 0) {
            System.exit(1);
        }
    }
}
