import java.io.IOException;
import java.lang.reflect.InvocationTargetException;
import java.lang.reflect.Method;
import java.nio.file.Files;
import java.nio.file.Path;
import java.util.Arrays;
import java.util.Set;
import java.util.TreeSet;
import java.util.regex.Matcher;
import java.util.regex.Pattern;

/** The calls of README.md answer what it says of them, and none of the face is left out. */
public final class ReadmeTest {
    private static final Pattern BLOCK = Pattern.compile("```java\\n(.*?)```", Pattern.DOTALL);
    private static final Pattern CALL = Pattern.compile("raft\\.(\\w+)\\((.*?)\\);\\s*// (-?\\d+)(:.*)?");
    private static final Pattern TELL = Pattern.compile("tell\\(raft, \"([^\"]*)\"\\);");
    private static final String MADE = "PartyRaft raft = new PartyRaft();";

    private static final Set<String> CALLED = new TreeSet<>();

    public static void main(String[] args) throws IOException, ReflectiveOperationException {
        Matcher block = BLOCK.matcher(Files.readString(Path.of("README.md")));
        Rig rig = new Rig("README.md");
        while (block.find()) {
            if (!block.group(1).startsWith("static ")) {
                rig = follow(block.group(1));
            }
        }
        Set<String> face = new TreeSet<>();
        for (Method m : PartyRaft.class.getDeclaredMethods()) {
            if (java.lang.reflect.Modifier.isPublic(m.getModifiers())) {
                face.add(m.getName());
            }
        }
        face.removeAll(CALLED);
        rig.due("methods that are not shown " + face, face.size(), 0);
        Rig.close();
    }

    private static Rig follow(String block) throws ReflectiveOperationException {
        Rig rig = new Rig("README.md");
        for (String line : block.split("\n")) {
            Matcher tell = TELL.matcher(line);
            Matcher call = CALL.matcher(line);
            if (line.equals(MADE)) {
                rig = new Rig("README.md");
            } else if (tell.matches()) {
                Rig.tell(rig.raft, tell.group(1));
            } else if (call.matches()) {
                rig.due(line, answer(rig.raft, call.group(1), call.group(2)), Integer.parseInt(call.group(3)));
            } else if (!line.isBlank() && !line.startsWith("//")) {
                rig.due("a line that says no answer: " + line, 1, 0);
            }
        }
        return rig;
    }

    private static int answer(PartyRaft raft, String name, String list) throws IllegalAccessException,
        InvocationTargetException, NoSuchMethodException {
        String[] told = list.isEmpty() ? new String[0] : list.split(", ");
        Object[] numbers = new Object[told.length];
        for (int i = 0; i < told.length; i++) {
            numbers[i] = Integer.decode(told[i]);
        }
        Class<?>[] types = new Class<?>[told.length];
        Arrays.fill(types, int.class);
        CALLED.add(name);
        return (Integer) PartyRaft.class.getMethod(name, types).invoke(raft, numbers);
    }
}
