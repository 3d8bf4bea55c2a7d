import java.io.IOException;
import java.lang.reflect.Constructor;
import java.lang.reflect.Field;
import java.lang.reflect.Method;
import java.lang.reflect.Modifier;
import java.nio.charset.StandardCharsets;
import java.nio.file.Files;
import java.nio.file.Path;
import java.util.ArrayList;
import java.util.HashSet;
import java.util.List;
import java.util.Set;
import java.util.regex.Matcher;
import java.util.regex.Pattern;

/** The class has the document's face and no more, and its source keeps to what LANGUAGE.md leaves. */
public final class FaceTest {
    private FaceTest() {
    }

    public static void main(String[] args) throws IOException {
        String source = Files.readString(Path.of(args[0], "src/main/java/PacketLaw.java"), StandardCharsets.UTF_8);
        String document = Files.readString(Path.of(args[1], "DOC.md"), StandardCharsets.UTF_8);
        Set<String> names = face(source, document);
        members(names);
        classes(names);
        words(source);
        library(source);
        loops(source);
        throwsAlone(source);
        lengths(source);
        Checks.end();
    }

    /** Every line of the document's face stands in the source; answers the methods' names. */
    private static Set<String> face(String source, String document) {
        Checks.part("face");
        Set<String> names = new HashSet<>();
        int start = document.indexOf("```java");
        for (String line : document.substring(start, document.indexOf("```", start + 3)).split("\n")) {
            String told = line.strip();
            if (told.startsWith("public ") && told.endsWith(";")) {
                String wanted = told.contains("=") ? told : told.substring(0, told.length() - 1) + " {";
                Checks.judge(told, "true", String.valueOf(source.contains("    " + wanted + "\n")));
                Matcher m = Pattern.compile(" (\\w+)\\(").matcher(told);
                if (m.find() && !m.group(1).equals("PacketLaw")) {
                    names.add(m.group(1));
                }
            }
        }
        Checks.judge("methods of the face", "41", String.valueOf(names.size()));
        return names;
    }

    private static void members(Set<String> names) {
        Checks.part("rule 1");
        Class<?> face = PacketLaw.class;
        Checks.judge("public and final", "true", String.valueOf(Modifier.isPublic(face.getModifiers()) && Modifier.isFinal(face.getModifiers())));
        int methods = 0;
        for (Method m : face.getDeclaredMethods()) {
            boolean isPublic = Modifier.isPublic(m.getModifiers());
            methods += isPublic ? 1 : 0;
            boolean fits = isPublic ? names.contains(m.getName()) : Modifier.isPrivate(m.getModifiers()) && !names.contains(m.getName());
            Checks.judge("method " + m.getName(), "true", String.valueOf(fits));
        }
        Checks.judge("as many methods as names", String.valueOf(names.size()), String.valueOf(methods));
        for (Field f : face.getDeclaredFields()) {
            boolean isConstant = f.getName().equals("NONE") || f.getName().equals("VOID");
            Checks.judge("field " + f.getName(), "true", String.valueOf(isConstant || Modifier.isPrivate(f.getModifiers())));
        }
        Checks.judge("one constructor", "1", String.valueOf(face.getDeclaredConstructors().length));
        for (Constructor<?> c : face.getDeclaredConstructors()) {
            Checks.judge("a public constructor", "true", String.valueOf(Modifier.isPublic(c.getModifiers())));
        }
    }

    private static void classes(Set<String> names) {
        Checks.part("rules 1, 2, 5 and 11");
        List<Class<?>> all = new ArrayList<>(List.of(PacketLaw.class.getDeclaredClasses()));
        for (Class<?> c : all) {
            int how = c.getModifiers();
            Checks.judge(c + " is private and static", "true", String.valueOf(Modifier.isPrivate(how) && Modifier.isStatic(how)));
            for (Method m : c.getDeclaredMethods()) {
                Checks.judge(c + " method " + m.getName(), "false", String.valueOf(names.contains(m.getName())));
            }
        }
        all.add(PacketLaw.class);
        Checks.judge("twelve classes at most", "true", String.valueOf(all.size() <= 12));
        for (Class<?> c : all) {
            int fields = 0;
            for (Field f : c.getDeclaredFields()) {
                boolean isStatic = Modifier.isStatic(f.getModifiers());
                fields += isStatic ? 0 : 1;
                Checks.judge(f + " is final if static", "true", String.valueOf(!isStatic || Modifier.isFinal(f.getModifiers())));
            }
            Checks.judge(c + " has twenty fields at most", "true", String.valueOf(fields <= 20));
            for (Method m : c.getDeclaredMethods()) {
                Checks.judge(m + " has seven parameters at most", "true", String.valueOf(m.getParameterCount() <= 7));
            }
        }
    }

    private static void words(String source) {
        Checks.part("rules 2 to 6, 13");
        String[] none = {"->", "::", "\\bcatch\\b", "\\btry\\b", "\\bfinally\\b", "\\bsynchronized\\b", "\\bassert\\b", "\\binstanceof\\b",
            "\\bSystem\\.(?!arraycopy)", "\\bprotected\\b", "\\bpackage\\b", "Exact\\b", "static \\{", "\\bdouble\\b", "\\bfloat\\b",
            "\\[\\]\\[\\]\\[\\]", "@", "\" *\\+", "\\+ *\"", "\\bequals\\b", "\\bhashCode\\b", "\\btoString\\b", "[^\\x00-\\x7f]",
            "\\bThread\\b", "\\bRandom\\b", "\\bnull\\b"};
        for (String word : none) {
            Matcher m = Pattern.compile(word).matcher(source);
            Checks.judge("a place of " + word, "none", m.find() ? "at " + m.start() : "none");
        }
        Matcher imports = Pattern.compile("(?m)^import .*$").matcher(source);
        while (imports.find()) {
            Checks.judge("an import", "import java.util.NoSuchElementException;", imports.group());
        }
    }

    private static void library(String source) {
        Checks.part("rule 4");
        Matcher calls = Pattern.compile("\\b([A-Z]\\w*)\\.(\\w+)\\(").matcher(source);
        while (calls.find()) {
            Checks.judge(calls.group(), "true", String.valueOf(calls.group().matches("(Math\\.(min|max)|(WORDS|SIGNS)\\.(length|charAt|indexOf))\\(")));
        }
        Matcher made = Pattern.compile("(?m)^.*\\bnew (\\w+)(.).*$").matcher(source);
        while (made.find()) {
            boolean isComment = made.group().strip().startsWith("/**");
            boolean isThrow = made.group().strip().startsWith("throw new ");
            boolean isField = made.group().matches(" +\\w+ = new \\w+[\\[(].*[\\])];");
            Checks.judge(made.group().strip(), "true", String.valueOf(isComment || isThrow || isField));
        }
    }

    private static void loops(String source) {
        Checks.part("rule 9");
        Matcher loops = Pattern.compile("\\bfor \\(([^;]*);([^;]*);([^)]*)\\)").matcher(source);
        int many = 0;
        while (loops.find()) {
            boolean counts = loops.group(2).matches(" \\w+ (<|<=|>=) .*") && loops.group(3).matches(" \\w+(\\+\\+|--| -= 8)");
            Checks.judge(loops.group(), "true", String.valueOf(counts));
            many++;
        }
        Checks.judge("loops were found", "true", String.valueOf(many > 50));
        Matcher whiles = Pattern.compile("\\bwhile \\((\\w+) < [^)]*").matcher(source);
        int tested = 0;
        while (whiles.find()) {
            String body = source.substring(whiles.end(), source.indexOf("}", whiles.end()));
            Checks.judge(whiles.group(), "true", String.valueOf(body.contains(whiles.group(1) + "++;")));
            tested++;
        }
        Checks.judge("each while is one of these", String.valueOf(source.split("\\bwhile\\b").length - 1), String.valueOf(tested));
    }

    private static void throwsAlone(String source) {
        Checks.part("rule 6");
        Matcher m = Pattern.compile("\\bthrow\\b[^;]*;").matcher(source);
        while (m.find()) {
            boolean fits = m.group().matches("throw new (IllegalStateException|IllegalArgumentException|IndexOutOfBoundsException|NoSuchElementException)\\(\\);");
            Checks.judge(m.group(), "true", String.valueOf(fits));
        }
    }

    private static void lengths(String source) {
        Checks.part("rule 11");
        String[] lines = source.split("\n");
        for (int i = 0; i < lines.length; i++) {
            if (lines[i].matches(" {4,8}[\\w].*\\) .*\\{") && !lines[i].contains(" class ")) {
                String end = lines[i].replaceAll("\\S.*", "") + "}";
                int last = i;
                while (last < lines.length && !lines[last].equals(end)) {
                    last++;
                }
                Checks.judge("sixty lines at most: " + lines[i].strip(), "true", String.valueOf(last - i < 60));
            }
        }
    }
}
