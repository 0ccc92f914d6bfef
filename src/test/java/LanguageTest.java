import java.io.IOException;
import java.lang.reflect.Constructor;
import java.lang.reflect.Field;
import java.lang.reflect.Method;
import java.lang.reflect.Modifier;
import java.nio.file.Files;
import java.nio.file.Path;
import java.util.ArrayList;
import java.util.Arrays;
import java.util.List;
import java.util.Set;
import java.util.TreeSet;
import java.util.regex.Matcher;
import java.util.regex.Pattern;

/** Rules of LANGUAGE.md that can be seen in the text and in the face of the class. */
public final class LanguageTest {
    private static final String[] FACE = {
        "back(int)", "ahead(int,int)", "bearers(int,int)", "bind(int,int,int)", "count(int)", "cut(int)", "delta(int)",
        "drawn(int,int,int)", "end(int)", "feed(int,int,int,int,int)", "game(int,int)", "image(int)", "locks(int,int)",
        "margin(int)", "mile()", "offer(int,int,int)", "owner(int,int)", "plan(int)", "push(int,int)", "rapid(int)",
        "river()", "rope(int,int)", "rule()", "run(int,int,int)", "saw(int)", "sawn(int,int)", "seed(int)", "sinks(int)",
        "take(int,int)", "thing(int,int)", "undo()", "weak(int)"};
    private static final String[] FORBIDDEN = {
        "\\bthrow\\b", "\\btry\\b", "\\bcatch\\b", "\\bsynchronized\\b", "\\bassert\\b", "->", "::", "Exact\\b",
        "\\bpackage\\b", "\\bSystem\\.(?!arraycopy\\b)", "\\bRandom\\b", "\\bThread\\b", "\\bhashCode\\b", "\\btoString\\b",
        "\\bpublic\\b.*\\bstatic\\b(?!.*\\bNONE\\b)", "\\bprotected\\b", "\\binstanceof\\b", "\\bnull\\b", "\"\\s*\\+", "\\+\\s*\"",
        "\\bwhile\\s*\\(true\\)", "for\\s*\\(;;\\)"};

    private static int wrong;

    public static void main(String[] args) throws IOException {
        String source = Files.readString(Path.of("src/main/java/PartyRaft.java"));
        face();
        text(source);
        methods(source);
        System.out.println(wrong + " rules are broken");
        if (wrong != 0) {
            System.exit(1);
        }
    }

    private static void broken(String what) {
        wrong++;
        System.out.println(what);
    }

    private static void face() {
        Set<String> due = new TreeSet<>(Arrays.asList(FACE));
        Set<String> names = new TreeSet<>();
        Set<String> seen = new TreeSet<>();
        for (Method m : PartyRaft.class.getDeclaredMethods()) {
            if (Modifier.isPublic(m.getModifiers())) {
                List<String> types = new ArrayList<>();
                for (Class<?> type : m.getParameterTypes()) {
                    types.add(type.getName());
                }
                seen.add(m.getName() + "(" + String.join(",", types) + ")");
                names.add(m.getName());
                if (m.getReturnType() != int.class) {
                    broken(m + " should answer an int");
                }
            } else if (!Modifier.isPrivate(m.getModifiers())) {
                broken(m + " can be seen");
            }
        }
        if (!seen.equals(due)) {
            broken("the face is " + seen + ", due is " + due);
        }
        for (Class<?> inside : PartyRaft.class.getDeclaredClasses()) {
            if (!Modifier.isStatic(inside.getModifiers()) || Modifier.isPublic(inside.getModifiers())) {
                broken(inside + " should be static and not public");
            }
            if (inside.getDeclaredFields().length > 45) {
                broken(inside + " has many fields");
            }
        }
        for (Class<?> any : classes()) {
            for (Method m : any.getDeclaredMethods()) {
                if (!Modifier.isPublic(m.getModifiers()) && names.contains(m.getName())) {
                    broken(m + " bears the name of a public one");
                }
                if (m.getParameterCount() > 7) {
                    broken(m + " takes more than seven");
                }
            }
            for (Field f : any.getDeclaredFields()) {
                if (Modifier.isStatic(f.getModifiers()) && !Modifier.isFinal(f.getModifiers())) {
                    broken(f + " is static and not final");
                }
            }
        }
        for (Field f : PartyRaft.class.getDeclaredFields()) {
            if (!Modifier.isPrivate(f.getModifiers()) && !f.getName().equals("NONE")) {
                broken(f + " can be seen");
            }
        }
        Constructor<?>[] made = PartyRaft.class.getConstructors();
        if (made.length != 1 || made[0].getParameterCount() != 0 || !Modifier.isFinal(PartyRaft.class.getModifiers())) {
            broken("the class is final and has one constructor without arguments");
        }
        if (classes().size() > 12) {
            broken("more than twelve classes");
        }
    }

    private static List<Class<?>> classes() {
        List<Class<?>> list = new ArrayList<>(Arrays.asList(PartyRaft.class.getDeclaredClasses()));
        list.add(PartyRaft.class);
        return list;
    }

    private static void text(String source) {
        String[] lines = source.split("\n");
        for (int i = 0; i < lines.length; i++) {
            String line = lines[i].strip();
            if (line.startsWith("/*") || line.startsWith("*") || line.startsWith("//")) {
                continue;
            }
            for (String forbidden : FORBIDDEN) {
                if (Pattern.compile(forbidden).matcher(line).find()) {
                    broken("line " + (i + 1) + " has " + forbidden + ": " + line);
                }
            }
            if (line.startsWith("import") && !line.equals("import java.util.Arrays;")) {
                broken("line " + (i + 1) + ": " + line);
            }
        }
    }

    /** A method is from its head, four or eight blanks deep, to the bracket that closes it there. */
    private static void methods(String source) {
        Matcher m = Pattern.compile("(?m)^( {4}| {8})(?! )[^\\n=;]*\\) \\{\\n(?s:.*?)\\n\\1\\}").matcher(source);
        int found = 0;
        while (m.find()) {
            found++;
            int lines = m.group().split("\n").length;
            if (lines > 60) {
                broken(lines + " lines: " + m.group().split("\n")[0].strip());
            }
        }
        if (found < 33) {
            broken("only " + found + " methods were found");
        }
    }
}
