import java.io.IOException;
import java.lang.reflect.Member;
import java.lang.reflect.Method;
import java.lang.reflect.Modifier;
import java.nio.file.Files;
import java.nio.file.Path;
import java.util.ArrayList;
import java.util.HashSet;
import java.util.List;
import java.util.Set;
import java.util.regex.Matcher;
import java.util.regex.Pattern;

/** Those rules of LANGUAGE.md that can be seen from the class and its file, and the room that calls take. */
public final class LanguageTest {
    private static final Check check = new Check();

    public static void main(String[] args) throws IOException {
        String code = codeOf(Files.readString(Path.of("src/main/java/HalfAsked.java")));
        words(code);
        methods(code);
        face();
        classes();
        room();
        check.end("language");
    }

    /** The file without its comments, and with its texts and signs emptied. */
    private static String codeOf(String file) {
        return file.replaceAll("(?s)/\\*.*?\\*/", "").replaceAll("//[^\n]*", "")
            .replaceAll("\"[^\"\n]*\"", "\"\"").replaceAll("'[^'\n]*'", "' '");
    }

    private static void words(String code) {
        String[] forbidden = {"throw", "throws", "try", "catch", "finally", "synchronized", "assert", "import", "package", "Object",
            "System\\.(?!arraycopy)", "->", "::", "Exact\\(", "hashCode", "toString", "volatile", "native", "protected", "var"};
        for (String word : forbidden) {
            String bounded = Character.isLetter(word.charAt(0)) ? "\\b" + word : word;
            bounded = Character.isLetter(word.charAt(word.length() - 1)) ? bounded + "\\b" : bounded;
            Matcher m = Pattern.compile(bounded).matcher(code);
            check.holds("6 no '" + word + "' in the file", !m.find());
        }
    }

    /** Methods stay short and take at most seven parameters. */
    private static void methods(String code) {
        String[] lines = code.split("\n");
        Pattern head = Pattern.compile("^( {4}| {8})(?! |return|else|new)[\\w\\[\\] ]+\\w\\(([^;]*)\\) \\{$");
        for (int i = 0; i < lines.length; i++) {
            Matcher m = head.matcher(lines[i]);
            if (!m.matches() || lines[i].trim().matches("(if|for|while|switch|\\}).*")) continue;
            int end = i;
            while (end < lines.length && !lines[end].equals(m.group(1) + "}")) end++;
            check.holds("11 short: " + lines[i].trim(), end - i <= 60);
            check.holds("11 parameters: " + lines[i].trim(), m.group(2).split(",").length <= 7);
        }
    }

    private static void face() {
        Set<String> open = new HashSet<>();
        List<Member> members = new ArrayList<>(List.of(HalfAsked.class.getDeclaredMethods()));
        for (Method m : HalfAsked.class.getDeclaredMethods()) {
            if (Modifier.isPublic(m.getModifiers())) open.add(m.getName());
        }
        check.due("1 calls of the face", open.size(), 27);
        members.addAll(List.of(HalfAsked.class.getDeclaredFields()));
        Set<String> constants = Set.of("BAD", "NOT", "FULL", "NONE", "NULL", "CAST", "INDEX", "SIZE");
        for (Member m : members) {
            boolean told = m instanceof Method ? open.contains(m.getName()) : constants.contains(m.getName());
            check.holds("1 private or of the face: " + m, told == Modifier.isPublic(m.getModifiers())
                && (told || Modifier.isPrivate(m.getModifiers()) || m.isSynthetic()));
        }
        for (Class<?> inside : HalfAsked.class.getDeclaredClasses()) {
            for (Method m : inside.getDeclaredMethods()) {
                check.holds("1 no name of the face: " + m, !open.contains(m.getName()));
            }
        }
        check.due("1 constructors", HalfAsked.class.getDeclaredConstructors().length, 1);
        check.holds("1 final", Modifier.isFinal(HalfAsked.class.getModifiers()));
    }

    private static void classes() {
        List<Class<?>> all = new ArrayList<>(List.of(HalfAsked.class.getDeclaredClasses()));
        for (Class<?> inside : all) check.holds("2 static: " + inside, Modifier.isStatic(inside.getModifiers()));
        all.add(HalfAsked.class);
        check.holds("11 classes", all.size() <= 12);
        for (Class<?> type : all) {
            int own = 0;
            for (java.lang.reflect.Field f : type.getDeclaredFields()) {
                boolean isStatic = Modifier.isStatic(f.getModifiers());
                own += isStatic ? 0 : 1;
                check.holds("5 static is final: " + f, !isStatic || Modifier.isFinal(f.getModifiers()));
            }
            check.holds("11 fields of " + type, own <= 20);
        }
    }

    /** The dearest searches, over and over, make nothing that could fill the room. */
    private static void room() {
        com.sun.management.ThreadMXBean threads =
            (com.sun.management.ThreadMXBean) java.lang.management.ManagementFactory.getThreadMXBean();
        HalfAsked x = Check.with("f9000,c8000,t7000,w600,f500", "0>1,1>2;2>3,3>4,4>0;0>2,2>4,1>3");
        x.sheet(0, 2, 24);
        x.film(0, 2, 0);
        x.film(0, 2, 5);
        long before = threads.getThreadAllocatedBytes(Thread.currentThread().getId());
        for (int i = 0; i < 100; i++) {
            x.week();
            x.most(i % 5);
            x.when(i % 5, (i + 1) % 5);
            x.ends(i % 5);
            x.who(0, 2, 0, 3, -1);
            x.shun(i % 5);
            x.exact(i % 5, 3, 0);
            x.image();
            x.restore();
        }
        long made = threads.getThreadAllocatedBytes(Thread.currentThread().getId()) - before;
        check.holds("12 bytes made by 900 calls: " + made, made < 100_000);
    }
}
