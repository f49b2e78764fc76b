import java.io.File;
import java.io.IOException;
import java.lang.reflect.InvocationTargetException;
import java.lang.reflect.Method;
import java.nio.file.Files;
import java.nio.file.Path;
import java.util.ArrayList;
import java.util.List;
import java.util.Set;
import java.util.TreeSet;
import java.util.regex.Matcher;
import java.util.regex.Pattern;

/** What README.md shows is so: calls and their answers, the tables of classes and of tests, the commands. */
final class ReadmeTest {
    private static final Due DUE = new Due("ReadmeTest");
    private static final String NEW_OBJECT = "PartsFerry ferry = new PartsFerry();";
    private static final Pattern CALL =
            Pattern.compile("(?:int \\w+ = )?ferry\\.(\\w+)\\((.*)\\); +// (-?\\d+|throws \\w+)(?:: .*)?");

    /** The tests run from the project's folder. */
    public static void main(String[] args) throws Exception {
        String page = Files.readString(Path.of("README.md"));
        theCalls(page);
        theClasses(page);
        theTests(page);
        theCommands(page);
        DUE.end();
    }

    private static List<String> blocks(String page, String language) {
        List<String> blocks = new ArrayList<>();
        Matcher block = Pattern.compile("```" + language + "\n(.*?)```", Pattern.DOTALL).matcher(page);
        while (block.find()) {
            blocks.add(block.group(1));
        }
        return blocks;
    }

    private static Set<String> found(String pattern, String page) {
        Set<String> found = new TreeSet<>();
        Matcher matcher = Pattern.compile(pattern).matcher(page);
        while (matcher.find()) {
            found.add(matcher.group(1));
        }
        return found;
    }

    private static void theCalls(String page) throws Exception {
        int calls = 0;
        int texts = 0;
        for (String block : blocks(page, "java")) {
            PartsFerry ferry = null;
            String text = "";
            StringBuilder fed = new StringBuilder();
            for (String line : block.split("\n")) {
                Matcher call = CALL.matcher(line);
                if (line.equals(NEW_OBJECT)) {
                    ferry = new PartsFerry();
                } else if (call.matches() && ferry != null) {
                    calls++;
                    String[] with = call.group(2).split(", ");
                    String got = answer(ferry, call.group(1), with);
                    DUE.is(line + " (" + got + ")", got.equals(call.group(3)), true);
                    if (call.group(1).equals("feed")) {
                        fed.append(bytes(with));
                    } else if (call.group(1).equals("text")) {
                        texts++;
                        int n = Math.min(Integer.decode(with[0]), fed.length());
                        DUE.is("the text fed is " + text, fed.substring(0, n).equals(text), true);
                    }
                } else {
                    DUE.is("a line that can be tried: " + line, line.startsWith("// "), true);
                    text = line.replaceFirst("// ", "");
                }
            }
        }
        DUE.is("the page shows calls", calls > 0, true);
        DUE.is("the page shows texts", texts > 0, true);
    }

    /** The signs that the numbers of one feed spell. */
    private static String bytes(String[] numbers) {
        StringBuilder bytes = new StringBuilder();
        for (String number : numbers) {
            for (int shift = 24; shift >= 0; shift -= 8) {
                bytes.append((char) (Integer.decode(number) >> shift & 255));
            }
        }
        return bytes.toString();
    }

    private static String answer(PartsFerry ferry, String name, String[] with) throws IllegalAccessException {
        int count = with[0].isEmpty() ? 0 : with.length;
        for (Method method : PartsFerry.class.getMethods()) {
            if (method.getName().equals(name) && method.getParameterCount() == count) {
                Object[] numbers = new Object[count];
                for (int i = 0; i < count; i++) {
                    numbers[i] = Integer.decode(with[i]);
                }
                try {
                    return method.invoke(ferry, numbers).toString();
                } catch (InvocationTargetException e) {
                    return "throws " + e.getCause().getClass().getSimpleName();
                }
            }
        }
        return "no such call";
    }

    private static void theClasses(String page) {
        int from = page.indexOf("| class inside |");
        String table = page.substring(from, page.indexOf("\n\n", from));
        Set<String> classes = new TreeSet<>();
        for (Class<?> inside : PartsFerry.class.getDeclaredClasses()) {
            classes.add(inside.getSimpleName());
        }
        Set<String> told = found("`([A-Z]\\w+)`", table);
        DUE.is("the classes told " + told + ", there " + classes, told.equals(classes), true);
    }

    private static void theTests(String page) {
        Set<String> tests = new TreeSet<>();
        String[] files = new File("src/test/java").list();
        for (String file : files == null ? new String[0] : files) {
            if (file.endsWith("Test.java")) {
                tests.add(file.substring(0, file.length() - ".java".length()));
            }
        }
        Set<String> told = found("`(\\w+Test)`", page.substring(page.indexOf("| test |")));
        DUE.is("the tests told " + told + ", there " + tests, told.equals(tests), true);
    }

    private static void theCommands(String page) throws IOException, InterruptedException {
        List<String> blocks = blocks(page, "sh");
        DUE.is("the page shows commands", blocks.isEmpty(), false);
        for (String block : blocks) {
            Process shell = new ProcessBuilder("bash", "-e", "-c", block).inheritIO().start();
            DUE.is("exit code of " + block, shell.waitFor(), 0);
        }
        DUE.is(".ci/run can be run", Files.isExecutable(Path.of(".ci/run")), true);
    }
}
