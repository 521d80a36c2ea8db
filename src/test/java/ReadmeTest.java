import java.lang.reflect.Method;
import java.lang.reflect.Modifier;
import java.nio.file.Files;
import java.nio.file.Path;
import java.util.List;
import java.util.regex.Matcher;
import java.util.regex.Pattern;
import java.util.stream.Stream;

/** What README.md tells: the example gives the answers in its comments, and nothing is left out of its tables. */
public final class ReadmeTest {
    private static final Due D = new Due("ReadmeTest");
    private static final Pattern ANSWER = Pattern.compile(";\\s*// (-?\\d+):");

    private final String text;
    private final List<String> example;
    private int played = 0;

    private ReadmeTest(String text) {
        this.text = text;
        int begin = text.indexOf("```java\n");
        int end = text.indexOf("\n```\n", begin + 1);
        D.due("an example", begin >= 0 && end > begin);
        this.example = begin >= 0 && end > begin ? text.substring(begin + 8, end).lines().toList() : List.of();
    }

    public static void main(String[] args) throws Exception {
        ReadmeTest test = new ReadmeTest(Files.readString(Path.of("README.md")));
        test.playExample();
        test.namesEachMethod();
        test.namesEachError();
        test.namesEachTest();
        D.end();
    }

    private void playExample() {
        begins("RotaryExchange x = new RotaryExchange();");
        RotaryExchange x = new RotaryExchange();
        answers("x.lift(5);", x.lift(5));
        answers("x.tick(x.until(5, RotaryExchange.TONE, 100));", x.tick(x.until(5, RotaryExchange.TONE, 100)));
        answers("x.dial(5, 1);", x.dial(5, 1));
        answers("x.dial(5, 2);", x.dial(5, 2));
        answers("x.tick(6);", x.tick(6));
        answers("x.line(1, 0);", x.line(1, 0));
        answers("x.lift(1);", x.lift(1));
        answers("x.tick(1);", x.tick(1));
        answers("x.line(5, 0);", x.line(5, 0));
        answers("x.line(5, 5);", x.line(5, 5));
        answers("x.lift(5);", x.lift(5));
        answers("x.put(0x68352c7433L);", x.put(0x68352c7433L));
        answers("x.fault();", x.fault());
        answers("x.carryOut();", x.carryOut());
        answers("x.line(1, 6);", x.line(1, 6));
        D.due("lines of the example", example.size(), played);
    }

    /** Looks at the next line of the example, and returns it. */
    private String begins(String call) {
        String line = played < example.size() ? example.get(played) : "";
        played++;
        D.due("the example has " + call + " in the line " + played, line.startsWith(call));
        return line;
    }

    private void answers(String call, int got) {
        Matcher told = ANSWER.matcher(begins(call));
        if (told.find()) {
            D.due(call, got, Integer.parseInt(told.group(1)));
        } else {
            D.due("README.md tells the answer of " + call, false);
        }
    }

    private void namesEachMethod() {
        for (Method method : RotaryExchange.class.getDeclaredMethods()) {
            if (Modifier.isPublic(method.getModifiers())) {
                String call = "`" + method.getName() + "(";
                D.due("README.md names " + call, text.contains(call));
            }
        }
    }

    private void namesEachError() {
        String[] names = {"NO_SUCH", "BAD_VALUE", "BAD_TEXT", "TOO_MANY", "NOT_POSSIBLE", "NONE"};
        int[] codes = {RotaryExchange.NO_SUCH, RotaryExchange.BAD_VALUE, RotaryExchange.BAD_TEXT, RotaryExchange.TOO_MANY,
            RotaryExchange.NOT_POSSIBLE, RotaryExchange.NONE};
        for (int i = 0; i < names.length; i++) {
            String code = "`" + names[i] + "` (" + codes[i] + ")";
            D.due("README.md names " + code, text.contains(code));
        }
    }

    private void namesEachTest() throws Exception {
        try (Stream<Path> files = Files.list(Path.of("src/test/java"))) {
            files.map(file -> file.getFileName().toString()).filter(name -> name.endsWith("Test.java")).forEach(name -> {
                String row = "| " + name.substring(0, name.length() - ".java".length()) + " |";
                D.due("README.md has the row " + row, text.contains(row));
            });
        }
    }
}
