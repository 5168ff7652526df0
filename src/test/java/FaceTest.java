import java.io.IOException;
import java.lang.reflect.Constructor;
import java.lang.reflect.Field;
import java.lang.reflect.Member;
import java.lang.reflect.Method;
import java.lang.reflect.Modifier;
import java.nio.file.Files;
import java.nio.file.Path;
import java.util.Set;
import java.util.TreeSet;
import java.util.regex.Matcher;
import java.util.regex.Pattern;

/** The public face is the document's, and the source keeps to the rules of the language that can be seen in it. */
public final class FaceTest {
    private static final Path SOURCE = Path.of("src/main/java/CutCity.java");
    private static final Path DOCUMENT = Path.of("../shared/DOC.md");
    private static final Due due = new Due("FaceTest");

    public static void main(String[] args) throws IOException {
        face();
        constants();
        classes();
        String source = Files.readString(SOURCE);
        words(source);
        shape(source);
        recursion(bare(source));
        due.end();
    }

    private static String bare(String source) {
        return source.replaceAll("(?s)/\\*.*?\\*/", " ").replaceAll("//[^\n]*", " ").replaceAll("\"[^\"\n]*\"", "\"\"");
    }

    private static Set<String> documentFace() throws IOException {
        String text = Files.readString(DOCUMENT);
        Set<String> all = new TreeSet<>();
        Matcher m = Pattern.compile("public (int \\w+\\([^)]*\\));").matcher(text.substring(0, text.indexOf("## Terms")));
        while (m.find()) all.add(m.group(1).replaceAll("int (\\w+)(?=[,)])", "int"));
        return all;
    }

    private static boolean isSeen(Member one) {
        return !Modifier.isPrivate(one.getModifiers()) && !one.isSynthetic();
    }

    private static void face() throws IOException {
        Set<String> ours = new TreeSet<>();
        for (Method one : CutCity.class.getDeclaredMethods()) {
            if (!isSeen(one)) continue;
            due.that(one + " is public and no static one", Modifier.isPublic(one.getModifiers()) && !Modifier.isStatic(one.getModifiers()));
            StringBuilder b = new StringBuilder(one.getReturnType() + " " + one.getName() + "(");
            for (int i = 0; i < one.getParameterCount(); i++) b.append(i == 0 ? "" : ", ").append(one.getParameterTypes()[i]);
            ours.add(b.append(")").toString());
        }
        Set<String> theirs = documentFace();
        due.is("58 methods", theirs.size(), 58);
        for (String one : theirs) due.that(one + " is there", ours.contains(one));
        for (String one : ours) due.that(one + " is the document's", theirs.contains(one));
        Constructor<?>[] made = CutCity.class.getDeclaredConstructors();
        due.that("one constructor", made.length == 1 && made[0].getParameterCount() == 0 && Modifier.isPublic(made[0].getModifiers()));
        due.that("public and final", Modifier.isPublic(CutCity.class.getModifiers()) && Modifier.isFinal(CutCity.class.getModifiers()));
    }

    private static void constants() {
        int seen = 0;
        for (Field one : CutCity.class.getDeclaredFields()) {
            if (isSeen(one)) seen++;
        }
        due.is("nine constants", seen, 9);
        int[] ours = {CutCity.BAD, CutCity.NO, CutCity.FULL, CutCity.SPENT, CutCity.NONE, CutCity.NOTHING, CutCity.KIND, CutCity.INDEX, CutCity.SIZE};
        int[] want = {1, 2, 3, 4, 5, 11, 12, 13, 14};
        for (int i = 0; i < ours.length; i++) due.is("constant " + i, ours[i], -1000000000 - want[i]);
    }

    private static void classes() {
        Set<String> face = new TreeSet<>();
        for (Method one : CutCity.class.getDeclaredMethods()) if (isSeen(one)) face.add(one.getName());
        for (Method one : CutCity.class.getDeclaredMethods()) {
            if (!isSeen(one)) due.that(one.getName() + " is no name of the face", !face.contains(one.getName()));
        }
        Class<?>[] inside = CutCity.class.getDeclaredClasses();
        due.that("some twelve classes", inside.length < 14);
        for (Class<?> one : inside) {
            due.that(one + " is static", Modifier.isStatic(one.getModifiers()) && !Modifier.isPublic(one.getModifiers()) && !Modifier.isProtected(one.getModifiers()));
            int fields = 0;
            for (Field f : one.getDeclaredFields()) {
                if (!Modifier.isStatic(f.getModifiers())) fields++;
                else due.that(f + " is final", Modifier.isFinal(f.getModifiers()));
            }
            due.that(one + " has some twenty fields", fields <= 22);
            for (Method m : one.getDeclaredMethods()) {
                due.that(m + " takes seven at most", m.getParameterCount() <= 7);
                due.that(m + " has no name of the face", !face.contains(m.getName()));
            }
        }
    }

    private static void words(String source) {
        String code = bare(source);
        for (String word : new String[] {"throw", "throws", "try", "catch", "finally", "synchronized", "assert", "package", "protected", "native",
                "volatile", "\\w+Exact", "hashCode", "Thread", "Runtime", "Object"}) {
            due.that("no " + word, !Pattern.compile("\\b" + word + "\\b").matcher(code).find());
        }
        due.that("no method reference", !code.contains("::"));
        due.that("no lambda", !code.replaceAll("(case [^;:{}]*?|default\\s*)->", "").contains("->"));
        Matcher m = Pattern.compile("import ([^;]*);").matcher(code);
        Set<String> imports = Set.of("java.util.Arrays", "java.util.ArrayList", "java.util.List", "java.util.Iterator");
        while (m.find()) due.that("import of " + m.group(1), imports.contains(m.group(1)));
        m = Pattern.compile("\\b(System|Arrays)\\.(\\w+)").matcher(code);
        Set<String> known = Set.of("System.arraycopy", "Arrays.copyOf", "Arrays.copyOfRange", "Arrays.fill");
        while (m.find()) due.that(m.group() + " is of the library", known.contains(m.group()));
        due.that("no text is joined by +", !Pattern.compile("\"\" *\\+|\\+ *\"\"").matcher(code).find());
        for (int i = 0; i < source.length(); i++) {
            if (source.charAt(i) > 126) due.that("sign " + (int) source.charAt(i), false);
        }
    }

    /** Who calls itself is private and static, as rule 8 has it; methods that call one another need not be. */
    private static void recursion(String code) {
        Matcher head = Pattern.compile("(?m)^( {4}| {8})(\\S.*?)\\b(\\w+)\\([^()]*\\) \\{$").matcher(code);
        int seen = 0;
        while (head.find()) {
            seen++;
            int end = code.indexOf("\n" + head.group(1) + "}", head.end());
            due.that(head.group(3) + " ends", end >= 0);
            if (end < 0) continue;
            boolean callsItself = Pattern.compile("(?<![.\\w])" + head.group(3) + "\\(").matcher(code.substring(head.end(), end)).find();
            due.that(head.group(3) + " calls not itself, or may", !callsItself || head.group(2).startsWith("private static "));
        }
        due.that("methods are seen", seen > 150);
    }

    /** Methods are some sixty lines long at most. */
    private static void shape(String source) {
        String[] lines = source.split("\n");
        int start = -1;
        String indent = "";
        for (int i = 0; i < lines.length; i++) {
            Matcher head = Pattern.compile("^( {4}| {8})\\S.*\\) \\{$").matcher(lines[i]);
            if (start < 0 && head.matches()) {
                start = i;
                indent = head.group(1);
            } else if (start >= 0 && lines[i].equals(indent + "}")) {
                due.that("line " + (start + 1) + " starts a short method", i - start < 65);
                start = -1;
            }
        }
        due.that("all methods end", start < 0);
    }
}
