import java.io.IOException;
import java.lang.reflect.Member;
import java.lang.reflect.Modifier;
import java.nio.file.Files;
import java.nio.file.Path;
import java.util.ArrayList;
import java.util.Collections;
import java.util.List;
import java.util.regex.Matcher;
import java.util.regex.Pattern;

/** The face of the class, and those rules of LANGUAGE.md that can be seen from the program's text. */
public final class RulesTest {
    private static final String FACE = "BAD FULL NO NONE STATE advice back clear count decides evens forget game keep"
        + " leanings now objects odds pushes rate soonest tells tilt trace type undo would yard";

    private RulesTest() {
    }

    public static void main(String[] args) throws IOException {
        face();
        String source = Files.readString(Path.of("src/main/java/TippedBarrow.java"));
        signs(source);
        String code = source.replaceAll("(?s)/\\*.*?\\*/", " ").replaceAll("//[^\n]*", " ");
        words(code);
        methods(code);
        Due.end();
    }

    private static void face() {
        List<Member> members = new ArrayList<>(List.of(TippedBarrow.class.getDeclaredMethods()));
        members.addAll(List.of(TippedBarrow.class.getDeclaredFields()));
        List<String> seen = new ArrayList<>();
        for (Member member : members) {
            if (!Modifier.isPrivate(member.getModifiers()) && !member.isSynthetic()) {
                seen.add(member.getName());
                Due.is(member.getName() + " is public", Modifier.isPublic(member.getModifiers()) ? 1 : 0, 1);
            }
        }
        Collections.sort(seen);
        Due.is("the face is " + seen + ": as the document's", String.join(" ", seen).equals(FACE) ? 1 : 0, 1);
        Due.is("constructors", TippedBarrow.class.getConstructors().length, 1);
        for (Class<?> inside : TippedBarrow.class.getDeclaredClasses()) {
            Due.is(inside + " is static", Modifier.isStatic(inside.getModifiers()) ? 1 : 0, 1);
        }
    }

    private static void signs(String source) {
        for (int i = 0; i < source.length(); i++) {
            if (source.charAt(i) > 126) {
                Due.is("sign " + (int) source.charAt(i) + " at " + i, 1, 0);
            }
        }
    }

    private static void words(String code) {
        String[] none = {"throw", "throws", "try", "catch", "finally", "synchronized", "assert", "var", "volatile",
            "hashCode", "Object", "Random", "Thread", "System\\.(?!arraycopy)", "Math\\.\\w*Exact", "->", "::",
            "static *\\{", "package", "import (?!java\\.util\\.(Arrays|ArrayList|List|Iterator);)",
            "Arrays\\.(?!fill|copyOf|copyOfRange)", "@(?!Override)"};
        for (String word : none) {
            boolean isWord = Character.isLetter(word.charAt(0)) && Character.isLetter(word.charAt(word.length() - 1));
            String pattern = isWord ? "\\b" + word + "\\b" : word;
            Due.is("'" + word + "' stands in the program", Pattern.compile(pattern).matcher(code).find() ? 1 : 0, 0);
        }
    }

    /** A method has some sixty lines at most, and no private one bears a public one's name. */
    private static void methods(String code) {
        Matcher matcher = Pattern.compile("(?ms)^( +)((?:\\w+ |\\w+\\[\\] )+)(\\w+)\\(([^)]*)\\) \\{$.*?^\\1\\}$").matcher(code);
        List<String> face = List.of(FACE.split(" "));
        int found = 0;
        while (matcher.find()) {
            found++;
            String name = matcher.group(3);
            boolean isPublic = matcher.group(2).contains("public");
            Due.is("lines of " + name + " beyond sixty", matcher.group().lines().count() > 60 ? 1 : 0, 0);
            Due.is(name + " takes more than seven", matcher.group(4).split(",").length > 7 ? 1 : 0, 0);
            Due.is(name + " bears a public name", !isPublic && face.contains(name) ? 1 : 0, 0);
        }
        Due.is("methods found, fewer than those of the face: " + found, found < 24 ? 1 : 0, 0);
    }
}
