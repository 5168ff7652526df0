import java.io.IOException;
import java.lang.reflect.InvocationTargetException;
import java.lang.reflect.Method;
import java.lang.reflect.Modifier;
import java.nio.file.Files;
import java.nio.file.Path;
import java.util.HashMap;
import java.util.Map;
import java.util.regex.Matcher;
import java.util.regex.Pattern;

/** README.md: the example answers what stands beside it, all answers are told as they are, all calls are named. */
public final class ReadmeTest {
    private static final Due due = new Due("ReadmeTest");
    private static final Pattern LINE = Pattern.compile("(?:int (\\w+) = )?city\\.(\\w+)\\(([^)]*)\\); +// ([-\\w]+): .+");

    private final CutCity city = new CutCity();
    private final Map<String, Integer> names = new HashMap<>();

    private ReadmeTest() {
    }

    public static void main(String[] args) throws IOException, IllegalAccessException, InvocationTargetException {
        String text = Files.readString(Path.of("README.md"));
        new ReadmeTest().example(text);
        answers(text);
        calls(text);
        for (String word : new String[] {"new CutCity()", "512 calls", "    .ci/run\n", "../shared/DOC.md", "../shared/LANGUAGE.md"}) {
            due.that(word + " is told", text.contains(word));
        }
        due.end();
    }

    private void example(String text) throws IllegalAccessException, InvocationTargetException {
        Matcher block = Pattern.compile("(?s)```java\nCutCity city = new CutCity\\(\\);\n(.*?)```").matcher(text);
        due.that("there is an example", block.find());
        String[] lines = block.group(1).split("\n");
        due.that("it has some lines", lines.length > 10);
        for (String line : lines) {
            Matcher m = LINE.matcher(line);
            boolean told = m.matches();
            due.that(line + " is a call with its answer", told);
            if (told) step(m);
        }
    }

    private void step(Matcher m) throws IllegalAccessException, InvocationTargetException {
        int got = callOf(m.group(2), m.group(3).isEmpty() ? new String[0] : m.group(3).split(", "));
        due.is(m.group(), got, answerOf(m.group(4)));
        if (m.group(1) != null) names.put(m.group(1), got);
    }

    private int callOf(String name, String[] words) throws IllegalAccessException, InvocationTargetException {
        Object[] args = new Object[words.length];
        for (int i = 0; i < args.length; i++) args[i] = names.containsKey(words[i]) ? names.get(words[i]) : Integer.decode(words[i]);
        for (Method one : CutCity.class.getDeclaredMethods()) {
            if (Modifier.isPublic(one.getModifiers()) && one.getName().equals(name)) return (Integer) one.invoke(city, args);
        }
        due.that(name + " is a call", false);
        return 0;
    }

    private static int answerOf(String word) throws IllegalAccessException {
        if (!Character.isUpperCase(word.charAt(0))) return Integer.parseInt(word);
        for (java.lang.reflect.Field one : CutCity.class.getFields()) if (one.getName().equals(word)) return one.getInt(null);
        due.that(word + " is a constant", false);
        return 0;
    }

    private static void answers(String text) throws IllegalAccessException {
        for (java.lang.reflect.Field one : CutCity.class.getFields()) {
            String row = "| `" + one.getName() + "` | " + one.getInt(null) + " | ";
            due.that(row + "is told", text.contains(row));
        }
    }

    private static void calls(String text) {
        for (Method one : CutCity.class.getDeclaredMethods()) {
            if (Modifier.isPublic(one.getModifiers())) due.that(one.getName() + " is named", text.contains("`" + one.getName() + "`"));
        }
    }
}
