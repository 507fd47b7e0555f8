import java.lang.reflect.Constructor;
import java.lang.reflect.Field;
import java.lang.reflect.Method;
import java.lang.reflect.Modifier;
import java.nio.charset.StandardCharsets;
import java.nio.file.Files;
import java.nio.file.Path;
import java.util.ArrayList;
import java.util.Arrays;
import java.util.List;
import java.util.Set;
import java.util.TreeSet;
import java.util.regex.Matcher;
import java.util.regex.Pattern;
import java.util.stream.Collectors;

/** The public face as the document prints it, and the rules of LANGUAGE.md that can be seen in the source's text. */
public final class SourceTest {
    private static final Path SOURCE = Path.of("src/main/java/MirrorLies.java");
    private static final Path DOCUMENT = Path.of("../shared/DOC.md");
    private static int wrong;

    private static void check(boolean holds, String what) {
        if (!holds) {
            wrong++;
            System.out.println("SourceTest: " + what);
        }
    }

    public static void main(String[] args) throws Exception {
        String source = Files.readString(SOURCE, StandardCharsets.ISO_8859_1);
        String bare = withoutTexts(source);
        face();
        nested();
        words(bare);
        methods(bare);
        System.out.println("SourceTest: " + wrong + " rules broken");
        if (wrong != 0) {
            System.exit(1);
        }
    }

    /** The source without comments, texts and characters. */
    private static String withoutTexts(String source) {
        String s = Pattern.compile("/\\*.*?\\*/", Pattern.DOTALL).matcher(source).replaceAll(" ");
        s = s.replaceAll("'.'", "0");
        s = s.replaceAll("\"[^\"\n]*\"", "\"\"");
        return s.replaceAll("//[^\n]*", " ");
    }

    private static void face() throws Exception {
        String document = Files.readString(DOCUMENT, StandardCharsets.ISO_8859_1);
        Matcher block = Pattern.compile("```java\n(.*?)```", Pattern.DOTALL).matcher(document);
        check(block.find(), "no public face in the document");
        Set<String> due = new TreeSet<>();
        Matcher line = Pattern.compile("public (\\w+) (\\w+)\\((.*?)\\);").matcher(block.group(1));
        while (line.find()) {
            String types = Arrays.stream(line.group(3).split(",")).map(p -> p.trim().split(" ")[0])
                .collect(Collectors.joining(","));
            due.add(line.group(1) + " " + line.group(2) + "(" + types + ")");
        }
        Set<String> found = new TreeSet<>();
        Set<String> hidden = new TreeSet<>();
        for (Method m : MirrorLies.class.getDeclaredMethods()) {
            if (Modifier.isPrivate(m.getModifiers())) {
                hidden.add(m.getName());
                continue;
            }
            check(Modifier.isPublic(m.getModifiers()), "not public and not private: " + m);
            String types = Arrays.stream(m.getParameterTypes()).map(Class::getName).collect(Collectors.joining(","));
            found.add(m.getReturnType().getName() + " " + m.getName() + "(" + types + ")");
        }
        check(due.size() == 56, "the document has 56 methods, not " + due.size());
        check(found.equals(due), "the face is " + found + ", due is " + due);
        for (Class<?> inside : MirrorLies.class.getDeclaredClasses()) {
            Arrays.stream(inside.getDeclaredMethods()).forEach(m -> hidden.add(m.getName()));
        }
        for (String name : hidden) {
            check(due.stream().noneMatch(d -> d.contains(" " + name + "(")), "inside, but of a public name: " + name);
        }
        check(Modifier.isFinal(MirrorLies.class.getModifiers()), "the class is not final");
        for (Constructor<?> c : MirrorLies.class.getDeclaredConstructors()) {
            check(Modifier.isPublic(c.getModifiers()) && c.getParameterCount() == 0, "constructor " + c);
        }
        fields(MirrorLies.class);
        check(MirrorLies.class.getField("NONE").getInt(null) == -1, "NONE");
    }

    private static void fields(Class<?> owner) {
        int own = 0;
        for (Field f : owner.getDeclaredFields()) {
            boolean isStatic = Modifier.isStatic(f.getModifiers());
            own += isStatic ? 0 : 1;
            check(!isStatic || Modifier.isFinal(f.getModifiers()), "static and not final: " + f);
            boolean isPrivate = Modifier.isPrivate(f.getModifiers());
            check(owner != MirrorLies.class || isPrivate || f.getName().equals("NONE"), "not private: " + f);
        }
        check(own <= 20, owner + " has " + own + " fields");
    }

    private static void nested() {
        Class<?>[] inside = MirrorLies.class.getDeclaredClasses();
        check(inside.length + 1 <= 12, inside.length + 1 + " classes");
        for (Class<?> c : inside) {
            check(Modifier.isStatic(c.getModifiers()), "not static: " + c);
            check(c.getDeclaredClasses().length == 0, "classes inside " + c);
            fields(c);
        }
    }

    private static void words(String bare) {
        String[] never = {"throw", "throws", "try", "catch", "finally", "synchronized", "assert", "package", "var",
            "goto", "native", "volatile", "transient", "Object", "Random", "System\\.(?!arraycopy)\\w+", "Thread",
            "hashCode", "toString", "getClass", "\\w+Exact", "double", "float"};
        for (String word : never) {
            check(!Pattern.compile("\\b" + word + "\\b").matcher(bare).find(), "the source has " + word);
        }
        check(!bare.contains("->"), "a lambda or a new switch");
        check(!bare.contains("::"), "a method reference");
        check(!Pattern.compile("static\\s*\\{").matcher(bare).find(), "a static block");
        Matcher imports = Pattern.compile("import ([\\w.*]+);").matcher(bare);
        while (imports.find()) {
            check(imports.group(1).equals("java.util.Arrays"), "import " + imports.group(1));
        }
        check(source127(bare), "a sign beyond 127");
        for (String loop : List.of("while \\(true", "for \\(;;", "for \\([^;]*; *;")) {
            check(!Pattern.compile(loop).matcher(bare).find(), "a loop without an end: " + loop);
        }
        // What is made is made once for each object: no "new" in any method that a call could reach.
        String methodsOnly = bare.replaceAll("(?m)^.*\\bfinal\\b.*\\bnew\\b.*$", "").replace("boxes[box] = new Hour();", "");
        check(!Pattern.compile("\\bnew\\b").matcher(methodsOnly).find(), "something is made in a call");
    }

    private static boolean source127(String bare) {
        return bare.chars().allMatch(c -> c < 127);
    }

    private static void methods(String bare) {
        List<String> lines = new ArrayList<>(bare.lines().toList());
        Pattern head = Pattern.compile("^( {4}| {8})(?:private |public |static |final )*[\\w\\[\\]]+ \\w+\\((.*)\\) \\{$");
        for (int i = 0; i < lines.size(); i++) {
            Matcher m = head.matcher(lines.get(i));
            if (!m.find() || lines.get(i).contains(" class ")) {
                continue;
            }
            int end = i;
            while (end < lines.size() && !lines.get(end).equals(m.group(1) + "}")) {
                end++;
            }
            check(end - i + 1 <= 60, end - i + 1 + " lines: " + lines.get(i).trim());
            check(m.group(2).split(",").length <= 7, "parameters: " + lines.get(i).trim());
        }
        for (String line : lines) {
            check(line.length() <= 130, "a long line: " + line);
        }
    }
}
