import java.lang.reflect.Constructor;
import java.lang.reflect.Field;
import java.lang.reflect.Method;
import java.lang.reflect.Modifier;
import java.nio.file.Files;
import java.nio.file.Path;
import java.util.List;
import java.util.Set;
import java.util.TreeSet;
import java.util.regex.Matcher;
import java.util.regex.Pattern;

/** What of LANGUAGE.md can be seen from the class's face and from the source's text. */
public final class RulesTest {
    private static int wrong;

    private static void due(boolean holds, String what) {
        if (!holds) {
            wrong++;
            System.out.println(what);
        }
    }

    private static final Set<String> FACE = Set.of("void feed(int,int,int,int,int)", "int end(int)", "int compile()",
        "int look(int)", "int lut(int,int)", "int element(int,int)", "int net(int,int)", "int tile(int)", "int pad(int)",
        "int swap(boolean,int,int,int)", "int shake(int,int)", "int route(int)", "int owner(int)", "boolean burn()",
        "int bit(int)", "int flip(int)", "void start()", "boolean level(int,boolean)", "int tick(int)",
        "int probe(int,int)", "boolean drive(int,boolean)", "boolean clock(int)", "int value(int)", "int out(int)");

    private static String signature(Method m) {
        StringBuilder b = new StringBuilder(m.getReturnType().getName()).append(' ').append(m.getName()).append('(');
        for (Class<?> p : m.getParameterTypes()) b.append(b.charAt(b.length() - 1) == '(' ? "" : ",").append(p.getName());
        return b.append(')').toString();
    }

    private static void face() {
        Set<String> seen = new TreeSet<>();
        for (Method m : GateField.class.getDeclaredMethods()) {
            if (Modifier.isPublic(m.getModifiers())) seen.add(signature(m));
            else due(Modifier.isPrivate(m.getModifiers()) || m.isSynthetic(), "rule 1: " + m);
        }
        due(seen.equals(FACE), "rule 1: the face is " + seen);
        for (Field f : GateField.class.getDeclaredFields()) {
            boolean none = f.getName().equals("NONE");
            due(none ? Modifier.isPublic(f.getModifiers()) : Modifier.isPrivate(f.getModifiers()), "rule 1: " + f);
        }
        Constructor<?>[] made = GateField.class.getDeclaredConstructors();
        due(made.length == 1 && made[0].getParameterCount() == 4, "rule 1: the constructor");
        due(Modifier.isFinal(GateField.class.getModifiers()), "rule 1: final");
        due(GateField.NONE == -1, "the constant NONE");
    }

    private static void classes() {
        Set<String> names = new TreeSet<>();
        for (String s : FACE) names.add(s.substring(s.indexOf(' ') + 1, s.indexOf('(')));
        Class<?>[] inside = GateField.class.getDeclaredClasses();
        due(inside.length <= 12, "rule 11: " + inside.length + " classes inside");
        for (Class<?> c : inside) {
            due(Modifier.isStatic(c.getModifiers()) && !Modifier.isPublic(c.getModifiers()), "rule 1: " + c);
            int fields = 0;
            for (Field f : c.getDeclaredFields()) {
                if (!Modifier.isStatic(f.getModifiers())) fields++;
                else due(Modifier.isFinal(f.getModifiers()), "rule 5: " + f);
            }
            due(fields <= 20, "rule 11: " + fields + " fields in " + c);
            for (Method m : c.getDeclaredMethods()) {
                due(!names.contains(m.getName()), "rule 1: " + m + " bears the name of a public one");
                due(m.getParameterCount() <= 7, "rule 11: " + m);
            }
        }
    }

    private static void text() throws Exception {
        String source = Files.readString(Path.of("src/main/java/GateField.java"));
        String code = source.replaceAll("(?s)/\\*.*?\\*/", "").replaceAll("//.*", "");
        for (String word : List.of("try", "catch", "throw", "finally", "synchronized", "assert", "package", "protected",
                "Object", "Random", "Thread", "File"))
            due(!Pattern.compile("\\b" + word + "\\b").matcher(code).find(), "rules 2 to 13: " + word);
        due(!code.contains("->") && !code.contains("::"), "rule 2: lambdas");
        for (String line : code.split("\n"))
            due(!line.startsWith("import") || line.equals("import java.util.Arrays;"), "rule 4: " + line);
        Matcher calls = Pattern.compile("\\b(System|Arrays|Math|Integer|Long|String)\\.(\\w+)").matcher(code);
        Set<String> may = Set.of("System.arraycopy", "Arrays.fill", "Math.max", "Math.min", "Integer.bitCount");
        while (calls.find()) due(may.contains(calls.group()), "rule 4: " + calls.group());
        lengths(source.split("\n"));
    }

    private static void lengths(String[] lines) {
        int begin = -1;
        for (int i = 0; i < lines.length; i++) {
            due(lines[i].length() <= 100, "line " + (i + 1) + " is long");
            boolean head = lines[i].matches(" {4}( {4})?[a-zA-Z].*\\) \\{");
            if (head) begin = i;
            if (begin >= 0 && lines[i].matches(" {4}( {4})?\\}")) {
                due(i - begin < 60, "rule 11: the method at line " + (begin + 1));
                begin = -1;
            }
        }
    }

    public static void main(String[] args) throws Exception {
        face();
        classes();
        text();
        System.out.println(wrong + " rules broken");
        if (wrong > 0) System.exit(1);
    }
}
