import java.lang.reflect.Method;
import java.nio.file.Files;
import java.nio.file.Path;
import java.util.ArrayList;
import java.util.List;
import java.util.Set;
import java.util.TreeSet;
import java.util.regex.Matcher;
import java.util.regex.Pattern;

/** What README.md says of the class: its example answers so, and its table names each call once. (The class's path is the argument.) */
public final class ReadmeTest {
    private static final Check CHECK = new Check("ReadmeTest");
    private static final Pattern ANSWERED = Pattern.compile("^x\\.(\\w+)\\(([^)]*)\\); *// -> (-?\\w+).*$");
    private static final Pattern TOLD = Pattern.compile("^tell\\(x, (\\d), \"([^\"]*)\"\\); *// -> (-?\\d+).*$");

    public static void main(String[] args) throws Exception {
        if (args.length > 0) {
            String root = Path.of(args[0]).toAbsolutePath().normalize().toString().replaceFirst("src.main.java.\\w+\\.java$", "");
            String readme = Files.readString(Path.of(root, "README.md"));
            example(readme);
            table(readme);
        }
        CHECK.close();
    }

    private static void example(String readme) throws Exception {
        VeiledLandaus x = new VeiledLandaus();
        int answers = 0;
        for (String line : readme.split("\n")) {
            Matcher call = ANSWERED.matcher(line);
            Matcher text = TOLD.matcher(line);
            if (call.matches()) {
                CHECK.same(line, answer(x, call.group(1), call.group(2)), call.group(3));
                answers++;
            } else if (text.matches()) {
                int got = Check.tell(x, Integer.parseInt(text.group(1)), text.group(2));
                CHECK.due(line, got, Integer.parseInt(text.group(3)));
                answers++;
            } else {
                CHECK.due("no answer is told with " + line, line.contains("// ->"), false);
            }
        }
        CHECK.due("README.md has an example", answers > 20, true);
    }

    private static String answer(VeiledLandaus x, String name, String numbers) throws Exception {
        List<Object> args = new ArrayList<>();
        List<Class<?>> kinds = new ArrayList<>();
        for (String s : numbers.isEmpty() ? new String[0] : numbers.split(", *")) {
            boolean isFlag = s.equals("true") || s.equals("false");
            args.add(isFlag ? (Object) Boolean.valueOf(s) : (Object) Long.decode(s).intValue());
            kinds.add(isFlag ? boolean.class : int.class);
        }
        Method m = VeiledLandaus.class.getMethod(name, kinds.toArray(new Class<?>[0]));
        return String.valueOf(m.invoke(x, args.toArray()));
    }

    private static void table(String readme) {
        Set<String> calls = new TreeSet<>();
        for (Method m : VeiledLandaus.class.getDeclaredMethods()) {
            if (java.lang.reflect.Modifier.isPublic(m.getModifiers())) calls.add(m.getName());
        }
        int from = readme.indexOf("| what for |");
        CHECK.due("README.md has a table of calls", from >= 0, true);
        if (from < 0) return;
        int to = readme.indexOf("\n\n", from);
        Matcher m = Pattern.compile("`(\\w+)`").matcher(readme.substring(from, to < 0 ? readme.length() : to));
        while (m.find()) CHECK.due("named once: " + m.group(1), calls.remove(m.group(1)), true);
        CHECK.due("not named: " + calls, calls.size(), 0);
    }
}
