import java.io.IOException;
import java.lang.reflect.Member;
import java.lang.reflect.Method;
import java.lang.reflect.Modifier;
import java.nio.file.Files;
import java.nio.file.Path;
import java.util.ArrayList;
import java.util.HashSet;
import java.util.List;
import java.util.Set;
import java.util.regex.Matcher;
import java.util.regex.Pattern;

/** Those rules of LANGUAGE.md that can be seen from the class and its file. */
public final class LanguageTest {
    private static final Check check = new Check();
    private static final Path FILE = Path.of("src/main/java/HalfAsked.java");
    /** Of what rule 4 lists only what the class uses, so that more is looked up there before it is added here. */
    private static final Set<String> LIBRARY = Set.of("Integer.bitCount(int)", "Math.max(int,int)", "Math.min(int,int)",
        "String.indexOf(int)", "System.arraycopy(java.lang.Object,int,java.lang.Object,int,int)");

    public static void main(String[] args) throws IOException {
        String code = codeOf(Files.readString(FILE));
        words(code);
        source(Source.read(FILE));
        face();
        check.end("language");
    }

    /** The file without its comments, and with its texts and signs emptied. */
    private static String codeOf(String file) {
        return file.replaceAll("(?s)/\\*.*?\\*/", "").replaceAll("//[^\n]*", "")
            .replaceAll("\"[^\"\n]*\"", "\"\"").replaceAll("'[^'\n]*'", "' '");
    }

    private static void words(String code) {
        String[] forbidden = {"throw", "throws", "try", "catch", "finally", "synchronized", "assert", "import", "package", "Object",
            "System\\.(?!arraycopy)", "->", "::", "Exact\\(", "hashCode", "toString", "volatile", "native", "protected", "var"};
        for (String word : forbidden) {
            String bounded = Character.isLetter(word.charAt(0)) ? "\\b" + word : word;
            bounded = Character.isLetter(word.charAt(word.length() - 1)) ? bounded + "\\b" : bounded;
            Matcher m = Pattern.compile(bounded).matcher(code);
            check.holds("6 no '" + word + "' in the file", !m.find());
        }
    }

    /** What the compiler's own reading of the file tells: what stands in it, and who calls whom. */
    private static void source(Source source) {
        check.holds("not as the rules say: " + source.forbidden, source.forbidden.isEmpty());
        for (String call : source.library) check.holds("4 not in the list: " + call, LIBRARY.contains(call));
        source.fields.forEach((name, many) -> check.holds("11 fields of " + name, many <= 20));
        check.holds("11 classes", source.fields.size() <= 12);
        check.holds("all methods are read", source.bodies.size() > 60);
        for (Source.Body body : source.bodies.values()) {
            check.holds("11 short: " + body.name, body.lines <= 60);
            check.holds("11 parameters: " + body.name, body.parameters <= 7);
            check.holds("11 " + body.name + " goes " + depth(body, new ArrayList<>()) + " deep", depth(body, new ArrayList<>()) <= 8);
            check.holds("8 private: " + body.name, body.isPrivate || !body.calls.contains(body));
            for (Source.Body called : body.calls) {
                check.holds("8 " + body.name + " and " + called.name, called == body || !reaches(called, body, new HashSet<>()));
            }
        }
    }

    /** How many calls stand open at once, the library's too, if a method that calls itself counts once. */
    private static int depth(Source.Body body, List<Source.Body> open) {
        int deepest = body.callsLibrary ? 1 : 0;
        open.add(body);
        for (Source.Body called : body.calls) {
            if (!open.contains(called)) deepest = Math.max(deepest, depth(called, open));
        }
        open.remove(body);
        return deepest + 1;
    }

    private static boolean reaches(Source.Body from, Source.Body to, Set<Source.Body> seen) {
        if (from == to) return true;
        boolean reached = false;
        if (seen.add(from)) {
            for (Source.Body called : from.calls) reached |= reaches(called, to, seen);
        }
        return reached;
    }

    private static void face() {
        Set<String> open = new HashSet<>();
        List<Member> members = new ArrayList<>(List.of(HalfAsked.class.getDeclaredMethods()));
        for (Method m : HalfAsked.class.getDeclaredMethods()) {
            if (Modifier.isPublic(m.getModifiers())) open.add(m.getName());
        }
        check.due("1 calls of the face", open.size(), 27);
        members.addAll(List.of(HalfAsked.class.getDeclaredFields()));
        Set<String> constants = Set.of("BAD", "NOT", "FULL", "NONE", "NULL", "CAST", "INDEX", "SIZE");
        for (Member m : members) {
            boolean told = m instanceof Method ? open.contains(m.getName()) : constants.contains(m.getName());
            check.holds("1 private or of the face: " + m, told == Modifier.isPublic(m.getModifiers())
                && (told || Modifier.isPrivate(m.getModifiers()) || m.isSynthetic()));
        }
        for (Class<?> inside : HalfAsked.class.getDeclaredClasses()) {
            for (Method m : inside.getDeclaredMethods()) {
                check.holds("1 no name of the face: " + m, !open.contains(m.getName()));
            }
        }
        check.due("1 constructors", HalfAsked.class.getDeclaredConstructors().length, 1);
        check.holds("1 final", Modifier.isFinal(HalfAsked.class.getModifiers()));
    }
}
