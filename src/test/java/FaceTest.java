import java.lang.reflect.Constructor;
import java.lang.reflect.Field;
import java.lang.reflect.Method;
import java.lang.reflect.Modifier;
import java.nio.file.Files;
import java.nio.file.Path;
import java.util.Set;
import java.util.TreeSet;
import java.util.regex.Matcher;
import java.util.regex.Pattern;

/** The public face, and the rules of LANGUAGE.md that can be seen in the source (its path is the argument). */
public final class FaceTest {
    private static final Check CHECK = new Check("FaceTest");

    private static final String FACE = "int state(int) int woman(int,int,int) int groom(int,int) "
        + "boolean set(int,int,int) int wed(int,int,int,int) boolean part(int) boolean cough(int,boolean) int years(int) "
        + "int feed(int,int,int,int,int) boolean end(int) int text(int) int fault(int) int of(int,int) int who(int,int) "
        + "int yes(int,int,int,int) int counts(int,int,int,int,boolean) int book(int,int) int would(int,int,int,int,int) "
        + "int goes(int,int) int tells(int,int,int,int,int) int sent(int,int) int man(int,int,boolean) int liars(int) "
        + "int guess(int,int,int) int plumes(int) int bet(int,int) int safe(int,int) int street(int,int) "
        + "int ways(int,int,int) int kin(int,int) int groups(int) int step(int) int alike(int,int) "
        + "boolean carriage(int,int,int) int down(int) int offer(int) int stop(int) int game(int) boolean undo() "
        + "boolean image(boolean) int look(int)";

    public static void main(String[] args) throws Exception {
        face();
        if (args.length > 0) source(Files.readString(Path.of(args[0])));
        CHECK.close();
    }

    private static void face() {
        Class<VeiledLandaus> c = VeiledLandaus.class;
        CHECK.due("final", Modifier.isFinal(c.getModifiers()), true);
        Set<String> wanted = new TreeSet<>();
        Matcher m = Pattern.compile("(\\w+ \\w+\\([\\w,]*\\))").matcher(FACE);
        while (m.find()) wanted.add(m.group(1));
        CHECK.due("methods of the document", wanted.size(), 41);
        Set<String> names = new TreeSet<>();
        for (Method x : c.getDeclaredMethods()) {
            if (x.isSynthetic()) continue;
            StringBuilder s = new StringBuilder(x.getReturnType().getSimpleName() + " " + x.getName() + "(");
            for (int i = 0; i < x.getParameterCount(); i++) {
                s.append(i > 0 ? "," : "").append(x.getParameterTypes()[i].getSimpleName());
            }
            s.append(")");
            if (Modifier.isPublic(x.getModifiers())) {
                CHECK.due("in the document: " + s, wanted.remove(s.toString()), true);
                names.add(x.getName());
            }
        }
        CHECK.due("missing: " + wanted, wanted.size(), 0);
        for (Constructor<?> x : c.getDeclaredConstructors()) {
            CHECK.due("public constructor", Modifier.isPublic(x.getModifiers()) && x.getParameterCount() == 0, true);
        }
        members(c, names);
        CHECK.due("some twelve classes", c.getDeclaredClasses().length <= 11, true);
        for (Class<?> n : c.getDeclaredClasses()) {
            CHECK.due("static " + n, Modifier.isStatic(n.getModifiers()), true);
            CHECK.due("not public " + n, Modifier.isPublic(n.getModifiers()), false);
            members(n, names);
        }
    }

    private static void members(Class<?> c, Set<String> publicNames) {
        int fields = 0;
        for (Field f : c.getDeclaredFields()) {
            if (f.isSynthetic()) continue;
            boolean isStatic = Modifier.isStatic(f.getModifiers());
            fields += isStatic ? 0 : 1;
            if (isStatic) CHECK.due("final " + f, Modifier.isFinal(f.getModifiers()), true);
            if (c == VeiledLandaus.class) {
                boolean seen = !Modifier.isPrivate(f.getModifiers());
                CHECK.due("seen only NONE: " + f, seen, f.getName().equals("NONE"));
            }
        }
        CHECK.due("some twenty fields in " + c, fields <= 20, true);
        for (Method x : c.getDeclaredMethods()) {
            if (x.isSynthetic()) continue;
            boolean isFace = c == VeiledLandaus.class && Modifier.isPublic(x.getModifiers());
            if (!isFace) CHECK.due("no name of the face: " + x, publicNames.contains(x.getName()), false);
            CHECK.due("seven parameters at most: " + x, x.getParameterCount() <= 7, true);
        }
    }

    private static void source(String text) {
        String code = text.replaceAll("(?s)/\\*.*?\\*/", " ").replaceAll("//[^\n]*", " ").replaceAll("\"[^\"\n]*\"", "\"\"");
        String[] words = {"throw", "throws", "try", "catch", "finally", "synchronized", "assert", "package", "volatile",
            "native", "float", "double", "Object", "System\\.(?!arraycopy)\\w+", "\\w+Exact", "Thread", "Random", "->",
            "::", "hashCode", "toString", "new \\w+\\(\\)\\s*\\{", "protected", "static\\s*\\{", "@\\w+"};
        for (String w : words) {
            Matcher m = Pattern.compile(w.matches("\\w+") ? "\\b" + w + "\\b" : w).matcher(code);
            CHECK.due("LANGUAGE: no " + w, m.find(), false);
        }
        Matcher imports = Pattern.compile("import ([^;]+);").matcher(code);
        while (imports.find()) CHECK.due("import " + imports.group(1), imports.group(1).equals("java.util.Arrays"), true);
        for (int i = 0; i < text.length(); i++) {
            if (text.charAt(i) > 126) CHECK.due("sign " + (int) text.charAt(i), 1, 0);
        }
        methodLengths(code);
    }

    private static void methodLengths(String code) {
        String[] lines = code.split("\n");
        int start = -1;
        String close = "";
        for (int i = 0; i < lines.length; i++) {
            Matcher m = Pattern.compile("^( {4}| {8})(?!.*\\bclass\\b)[a-zA-Z].*\\) \\{$").matcher(lines[i]);
            if (start < 0 && m.matches()) {
                start = i;
                close = m.group(1) + "}";
            } else if (start >= 0 && lines[i].stripTrailing().equals(close)) {
                CHECK.due("short: " + lines[start], i - start <= 60, true);
                start = -1;
            }
        }
    }
}
