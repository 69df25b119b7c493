import java.lang.reflect.Constructor;
import java.lang.reflect.Field;
import java.lang.reflect.Method;
import java.lang.reflect.Modifier;
import java.nio.charset.StandardCharsets;
import java.nio.file.Files;
import java.nio.file.Path;
import java.util.ArrayList;
import java.util.Arrays;
import java.util.List;
import java.util.Set;
import java.util.TreeSet;
import java.util.regex.Matcher;
import java.util.regex.Pattern;

/** The public face, and what of LANGUAGE.md can be seen without running; run from the project's folder. */
public final class RulesTest {
    private static final Due due = new Due();
    private static final String FACE = "write/1 erase/0 fault/0 commons/0 house/2 thing/2 as/2 want/2 year/1 send/2 patch/2 trade/0 "
        + "undo/0 keep/1 back/1 behind/3 leaves/1 rings/0 pieces/1 hangs/0 way/2 knit/1 whole/2 seen/3 forget/0 kinds/0 ask/0 "
        + "hooks/2 hang/4 unhang/3 find/3 join/2 drop/1 count/1";
    private static final String CONSTANTS =
        "NONE=-1 UNKNOWN=-2 OUTSIDE=-3 NOT=-4 FULL=-5 NULL=-11 INDEX=-12 CAST=-13 ROOM=-14 SIZE=-15";

    public static void main(String[] args) throws Exception {
        face();
        classesInside();
        source(Files.readString(Path.of("src/main/java/HookTies.java"), StandardCharsets.ISO_8859_1));
        due.end();
    }

    private static void face() throws Exception {
        due.about("the face");
        due.is("modifiers", HookTies.class.getModifiers(), Modifier.PUBLIC | Modifier.FINAL);
        Set<String> methods = new TreeSet<>();
        for (Method m : HookTies.class.getDeclaredMethods()) {
            if (Modifier.isPrivate(m.getModifiers())) {
                continue;
            }
            methods.add(m.getName() + "/" + m.getParameterCount());
            due.holds(m.getName() + " is public alone", m.getModifiers() == Modifier.PUBLIC);
            due.holds(m.getName() + " answers an int", m.getReturnType() == int.class);
            due.holds(m.getName() + " takes ints", Arrays.stream(m.getParameterTypes()).allMatch(t -> t == int.class));
        }
        due.holds("methods " + methods, methods.equals(new TreeSet<>(Arrays.asList(FACE.split(" ")))));
        Set<String> constants = new TreeSet<>();
        for (Field f : HookTies.class.getDeclaredFields()) {
            if (!Modifier.isPrivate(f.getModifiers())) {
                constants.add(f.getName() + "=" + f.getInt(null));
                due.is(f.getName(), f.getModifiers(), Modifier.PUBLIC | Modifier.STATIC | Modifier.FINAL);
            }
        }
        due.holds("constants " + constants, constants.equals(new TreeSet<>(Arrays.asList(CONSTANTS.split(" ")))));
        Constructor<?>[] made = HookTies.class.getDeclaredConstructors();
        due.is("constructors", made.length, 1);
        due.is("its parameters", made[0].getParameterCount(), 0);
        due.is("its modifiers", made[0].getModifiers(), Modifier.PUBLIC);
    }

    private static void classesInside() {
        due.about("rules 1, 2, 5, 11");
        List<Class<?>> all = new ArrayList<>(Arrays.asList(HookTies.class.getDeclaredClasses()));
        due.holds("classes", all.size() < 12);
        for (Class<?> c : all) {
            due.holds(c + " is static", Modifier.isStatic(c.getModifiers()));
            due.holds(c + " is not public", !Modifier.isPublic(c.getModifiers()) && !Modifier.isProtected(c.getModifiers()));
        }
        all.add(HookTies.class);
        Set<String> names = new TreeSet<>();
        for (String one : FACE.split(" ")) {
            names.add(one.substring(0, one.indexOf('/')));
        }
        for (Class<?> c : all) {
            int own = 0;
            for (Field f : c.getDeclaredFields()) {
                boolean fixed = Modifier.isStatic(f.getModifiers());
                own += fixed ? 0 : 1;
                due.holds(f + " is final", !fixed || Modifier.isFinal(f.getModifiers()));
            }
            due.holds(c + " has fields " + own, own <= 20);
            for (Method m : c.getDeclaredMethods()) {
                due.holds(m + " bears a name of the face", Modifier.isPublic(m.getModifiers()) || !names.contains(m.getName()));
                due.holds(m + " takes at most seven", m.getParameterCount() <= 7);
            }
        }
    }

    private static void source(String source) {
        due.about("the source");
        for (int i = 0; i < source.length(); i++) {
            int sign = source.charAt(i);
            due.holds("sign " + sign + " at " + i, sign == '\n' || sign >= 32 && sign < 127);
        }
        String code = source.replaceAll("(?s)/\\*.*?\\*/", "").replaceAll("//[^\n]*", "").replaceAll("\"[^\"\n]*\"", "\"\"");
        String[] none = {"\\bthrow\\b", "\\bthrows\\b", "\\btry\\b", "\\bcatch\\b", "\\bsynchronized\\b", "\\bassert\\b", "->", "::",
            "\\bpackage\\b", "\\bprotected\\b", "Exact\\b", "\\bThread\\b", "\\bRandom\\b", "\\bSystem\\.(?!arraycopy\\b)",
            "static \\{", "\\btoString\\b", "\\bhashCode\\b", "\\bequals\\b", "\\bObject\\b", "while \\(true\\)", "for \\(;;"};
        for (String one : none) {
            Matcher m = Pattern.compile(one).matcher(code);
            due.holds("none of " + one, !m.find());
        }
        Matcher imports = Pattern.compile("import ([^;]*);").matcher(code);
        while (imports.find()) {
            due.holds("import " + imports.group(1), imports.group(1).equals("java.util.Arrays"));
        }
        due.holds("no call makes an object", !Pattern.compile("(?m)^ {8,}+(?!(private final|past|kept|racks)).*\\bnew\\b").matcher(code).find());
        methods(code);
    }

    private static void methods(String code) {
        String[] lines = code.split("\n");
        int open = -1;
        String name = "";
        String end = "";
        for (int i = 0; i < lines.length; i++) {
            Matcher m = Pattern.compile("( +)(public|private) .*?(\\w+)\\(.*\\) \\{").matcher(lines[i]);
            if (m.matches()) {
                open = i;
                name = m.group(3);
                end = m.group(1) + "}";
            } else if (open >= 0 && lines[i].equals(end)) {
                due.holds("rule 11, short: " + lines[open].trim(), i - open <= 60);
                recursion(lines[open].trim(), name, String.join("\n", Arrays.asList(lines).subList(open + 1, i)));
                open = -1;
            }
        }
    }

    /** Calls behind a point are not looked at: there the name may be another class's. */
    private static void recursion(String head, String name, String body) {
        boolean callsItself = Pattern.compile("(?<![.\\w])(this\\.)?" + name + "\\(").matcher(body).find();
        due.holds("rule 8, calls itself and is not static: " + head, !callsItself || head.startsWith("private static "));
    }
}
