import java.io.IOException;
import java.lang.reflect.Field;
import java.lang.reflect.Member;
import java.lang.reflect.Method;
import java.lang.reflect.Modifier;
import java.nio.charset.StandardCharsets;
import java.nio.file.Files;
import java.nio.file.Path;
import java.util.HashSet;
import java.util.Set;
import java.util.regex.Matcher;
import java.util.regex.Pattern;

/** Rules of LANGUAGE.md that a look at the source and at the compiled class can tell. */
final class LanguageTest {
    private static final Path SOURCE = Path.of("src/main/java/EventCounters.java");
    private static final String[] FACE = {
        "feed", "end", "program", "fault", "line", "step", "whole", "ratio", "loop", "went", "hot", "keep", "beside",
        "counters", "mask", "width", "together", "goes", "rounds", "sliced", "scaled", "finest", "shows", "samples",
        "far", "truest", "beats", "over", "looked", "seldom", "run", "forget", "wired", "sheet", "lay", "said", "count"};

    private LanguageTest() {
    }

    public static void main(String[] args) throws IOException {
        String source = Files.readString(SOURCE, StandardCharsets.UTF_8);
        String code = source.replaceAll("(?s)/\\*.*?\\*/", "").replaceAll("//[^\n]*", "");
        noForbiddenWords(code);
        signsOfConstants(code);
        methodsAreShort(code);
        theFace();
        membersOfClasses();
        Due.close();
    }

    private static void noForbiddenWords(String code) {
        String[] words = {
            "throw", "throws", "try", "catch", "finally", "synchronized", "assert", "import", "package", "protected",
            "volatile", "native", "hashCode", "toString", "currentTimeMillis", "nanoTime", "Random", "Thread", "System",
            "Exception", "Error"};
        for (String word : words) {
            Due.due("the word " + word, count(code, "\\b" + word + "\\b"), 0);
        }
        Due.due("lambdas", count(code, "->"), 0);
        Due.due("references to methods", count(code, "::"), 0);
        Due.due("functions that end in Exact", count(code, "Exact\\b"), 0);
        Due.due("loops without an end", count(code, "while \\(true\\)|for \\(;;\\)"), 0);
        Due.due("texts joined by +", count(code, "\"\\s*\\+|\\+\\s*\""), 0);
    }

    private static int count(String text, String pattern) {
        Matcher matcher = Pattern.compile(pattern).matcher(text);
        int n = 0;
        while (matcher.find()) {
            n++;
        }
        return n;
    }

    private static void signsOfConstants(String code) {
        int other = 0;
        for (int i = 0; i < code.length(); i++) {
            if (code.charAt(i) > 126) {
                other++;
            }
        }
        Due.due("signs above 126", other, 0);
    }

    /** Lines from a method's head to the brace that ends it, by how far they stand in. */
    private static void methodsAreShort(String code) {
        String[] lines = code.split("\n");
        for (int i = 0; i < lines.length; i++) {
            Matcher head = Pattern.compile("^( +)[a-zA-Z].*\\) \\{$").matcher(lines[i]);
            boolean method = head.find() && !lines[i].matches(" *(if|for|while|switch|do|else)\\b.*");
            if (method) {
                int end = i;
                while (!lines[end].equals(head.group(1) + "}")) {
                    end++;
                }
                Due.due("more than sixty lines:" + lines[i], end - i > 60 ? 1 : 0, 0);
            }
        }
    }

    private static void theFace() {
        Set<String> names = new HashSet<>(Set.of(FACE));
        Set<String> met = new HashSet<>();
        for (Method method : EventCounters.class.getDeclaredMethods()) {
            boolean face = Modifier.isPublic(method.getModifiers());
            Due.due("of the face: " + method, face == names.contains(method.getName()) ? 1 : 0, 1);
            Due.due("public or private: " + method, face || Modifier.isPrivate(method.getModifiers()) ? 1 : 0, 1);
            met.add(method.getName());
        }
        Due.due("all of the face", met.containsAll(names) ? 1 : 0, 1);
        Set<String> constants = Set.of("BAD", "STATE", "FULL", "NONE");
        for (Field field : EventCounters.class.getDeclaredFields()) {
            boolean face = Modifier.isPublic(field.getModifiers());
            Due.due("of the face: " + field, face == constants.contains(field.getName()) ? 1 : 0, 1);
            Due.due("public or private: " + field, face || Modifier.isPrivate(field.getModifiers()) ? 1 : 0, 1);
        }
        Due.due("constructors", EventCounters.class.getDeclaredConstructors().length, 1);
        Due.due("final", Modifier.isFinal(EventCounters.class.getModifiers()) ? 1 : 0, 1);
    }

    private static void membersOfClasses() {
        Class<?>[] inside = EventCounters.class.getDeclaredClasses();
        Due.due("at most twelve classes", inside.length + 1 <= 12 ? 1 : 0, 1);
        looksAt(EventCounters.class);
        for (Class<?> one : inside) {
            Due.due("static: " + one, Modifier.isStatic(one.getModifiers()) ? 1 : 0, 1);
            Due.due("not public: " + one, Modifier.isPublic(one.getModifiers()) ? 1 : 0, 0);
            looksAt(one);
        }
    }

    private static void looksAt(Class<?> one) {
        int fields = 0;
        for (Field field : one.getDeclaredFields()) {
            boolean constant = isStatic(field);
            fields += constant ? 0 : 1;
            Due.due("static and not final: " + field, constant && !Modifier.isFinal(field.getModifiers()) ? 1 : 0, 0);
        }
        Due.due("at most twenty fields: " + one, fields <= 20 ? 1 : 0, 1);
        for (Method method : one.getDeclaredMethods()) {
            Due.due("at most seven parameters: " + method, method.getParameterCount() <= 7 ? 1 : 0, 1);
        }
    }

    private static boolean isStatic(Member member) {
        return Modifier.isStatic(member.getModifiers());
    }
}
