import java.io.IOException;
import java.io.UncheckedIOException;
import java.lang.reflect.Method;
import java.lang.reflect.Modifier;
import java.nio.file.Files;
import java.nio.file.Path;
import java.util.ArrayList;
import java.util.List;
import java.util.regex.Matcher;
import java.util.regex.Pattern;

/** README.md: its examples answer what stands beside them; it names every call and every test. Run from the project's folder. */
public final class ReadmeTest {
    private static final Pattern BLOCK = Pattern.compile("(?ms)^```(\\w+)\n(.*?)^```$");
    private static final Pattern CALL = Pattern.compile("x\\.(\\w+)\\(([^)]*)\\);\\s*// (-?\\d+): .*");
    private static final String NEW = "HatFields x = new HatFields();";
    /** As many lines of calls as the page has at least: fewer would mean that the pattern sees them no more. */
    private static final int LEAST_CALLS = 30;

    public static void main(String[] args) throws IOException, ReflectiveOperationException {
        String page = Files.readString(Path.of("README.md"));
        examples(page);
        texts(page);
        bytesOfExamples(page);
        namesEveryCall(page);
        namesEveryTest(page);
        Check.finish();
    }

    private static List<String> blocks(String page, String language) {
        List<String> blocks = new ArrayList<>();
        Matcher block = BLOCK.matcher(page);
        while (block.find()) {
            if (block.group(1).equals(language)) {
                blocks.add(block.group(2));
            }
        }
        return blocks;
    }

    private static void examples(String page) throws ReflectiveOperationException {
        int calls = 0;
        for (String block : blocks(page, "java")) {
            HatFields x = new HatFields();
            String[] lines = block.split("\n");
            holds("an example begins with a new object", lines[0].equals(NEW));
            for (int i = 1; i < lines.length; i++) {
                Matcher call = CALL.matcher(lines[i]);
                holds("a call with its answer: " + lines[i], call.matches());
                if (call.matches()) {
                    Check.due(lines[i], answer(x, call.group(1), call.group(2)), Long.parseLong(call.group(3)));
                    calls++;
                }
            }
        }
        holds("the page has calls with answers", calls >= LEAST_CALLS);
    }

    private static long answer(HatFields x, String name, String told) throws ReflectiveOperationException {
        String[] numbers = told.isEmpty() ? new String[0] : told.split(", ");
        for (Method m : HatFields.class.getMethods()) {
            if (m.getName().equals(name) && m.getParameterCount() == numbers.length) {
                Object[] given = new Object[numbers.length];
                for (int i = 0; i < given.length; i++) {
                    long number = Long.decode(numbers[i].replace("L", ""));
                    given[i] = m.getParameterTypes()[i] == long.class ? (Object) number : (Object) (int) number;
                }
                return (Integer) m.invoke(x, given);
            }
        }
        throw new NoSuchMethodException(name);
    }

    private static void texts(String page) {
        List<String> texts = blocks(page, "text");
        holds("the page has a text", !texts.isEmpty());
        for (String text : texts) {
            HatFields x = Check.told(text.strip());
            Check.due("people of the text", x.many(0), 1);
            Check.due("hats of the text", x.many(1), 2);
            Check.due("NOW of the text", x.many(2), 5);
        }
    }

    /** The bytes fed in an example are those of the text that stands beside it. */
    private static void bytesOfExamples(String page) {
        Matcher fed = Pattern.compile("x\\.feed\\((0x\\w+)L, (\\d+)\\);[^\"\n]*\"([^\"\n]*)\"").matcher(page);
        int found = 0;
        while (fed.find()) {
            long eight = Long.decode(fed.group(1));
            StringBuilder text = new StringBuilder();
            for (int i = 0; i < Integer.parseInt(fed.group(2)); i++) {
                text.append((char) (eight >>> 8 * i & 255));
            }
            holds(fed.group() + " feeds '" + text + "'", text.toString().equals(fed.group(3)));
            found++;
        }
        Check.due("lines that feed a text", found, 2);
    }

    private static void namesEveryCall(String page) {
        for (Method m : HatFields.class.getDeclaredMethods()) {
            if (Modifier.isPublic(m.getModifiers())) {
                Matcher told = Pattern.compile("`" + m.getName() + "\\(([a-z, ]*)\\)`").matcher(tableRows(page));
                holds("the page's table has " + m, told.find() && numbersOf(told.group(1)) == m.getParameterCount());
            }
        }
    }

    private static String tableRows(String page) {
        StringBuilder rows = new StringBuilder();
        page.lines().filter(line -> line.startsWith("|")).forEach(line -> rows.append(line).append('\n'));
        return rows.toString();
    }

    private static int numbersOf(String told) {
        return told.isEmpty() ? 0 : told.split(", ").length;
    }

    private static void namesEveryTest(String page) {
        String rows = tableRows(page);
        try (var files = Files.list(Path.of("src/test/java"))) {
            files.map(file -> file.getFileName().toString()).filter(name -> name.endsWith("Test.java")).forEach(name -> {
                String test = name.substring(0, name.length() - ".java".length());
                holds("the page's table has " + test, Pattern.compile("[|,] " + test + "[ ,]").matcher(rows).find());
            });
        } catch (IOException e) {
            throw new UncheckedIOException(e);
        }
    }

    private static void holds(String what, boolean so) {
        Check.due(what, so ? 1 : 0, 1);
    }
}
