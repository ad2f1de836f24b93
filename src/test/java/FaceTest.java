import java.lang.reflect.Field;
import java.lang.reflect.Method;
import java.lang.reflect.Modifier;
import java.nio.file.Files;
import java.nio.file.Path;
import java.util.Set;
import java.util.TreeSet;

/** The face as the document has it, and such rules of the language as can be seen from outside. */
public final class FaceTest {
    private static final String[] FACE = {"feed(int,int,int,int,int):int", "text(int):int", "fault(int):int", "named(int,int):int",
        "glass(int,int):int", "man(int,int):int", "payment(int,int):int", "law(int,int):long", "flip(int):int",
        "pour(int,int,int):int", "dry(int):boolean", "go(int):int", "ahead(int,int,int):int", "empty(int):int", "open(int,int):int",
        "vigil(int,int):int", "apart():int", "carry(int,int):int", "comes(int):int", "even(int,int):int",
        "staysDry(int,int,int):long", "richest():int", "rests(int):int", "rest(int,int):int", "let(int,int,int):int",
        "nextShort(int):int", "heaviest():int", "wets():int", "richestIn(int):int", "sift(int):int", "rank(int):int", "toCome():int",
        "see(int,int,int,boolean):int", "strike(int):int", "known(int):boolean", "necks(int):int", "chance(int,int,int):int",
        "tried(int,int,int):int", "undo():int", "keep():int", "back():int", "count(int):int"};

    public static void main(String[] args) throws Exception {
        Set<String> want = new TreeSet<>(java.util.Arrays.asList(FACE));
        Set<String> names = new TreeSet<>();
        int found = 0;
        for (Method m : SandHours.class.getDeclaredMethods()) {
            if (Modifier.isPrivate(m.getModifiers())) {
                continue;
            }
            StringBuilder said = new StringBuilder(m.getName()).append('(');
            for (Class<?> c : m.getParameterTypes()) {
                said.append(said.charAt(said.length() - 1) == '(' ? "" : ",").append(c.getName());
            }
            said.append("):").append(m.getReturnType().getName());
            Check.due("in the face: " + said, want.contains(said.toString()), true);
            names.add(m.getName());
            found++;
        }
        Check.due("methods of the face", found, FACE.length);
        for (Method m : SandHours.class.getDeclaredMethods()) {
            Check.due(m.getName() + " is private and bears a public name",
                    Modifier.isPrivate(m.getModifiers()) && names.contains(m.getName()), false);
        }
        for (Field f : SandHours.class.getDeclaredFields()) {
            Check.due("field " + f.getName(), Modifier.isPrivate(f.getModifiers()) || f.getName().equals("NONE"), true);
        }
        Check.due("inner classes", SandHours.class.getDeclaredClasses().length <= 12, true);
        source();
        Check.end();
    }

    private static void source() throws Exception {
        String source = Files.readString(Path.of("src/main/java/SandHours.java"));
        for (String word : new String[] {"catch", "try {", "finally", "synchronized", "assert", "->", "::", "Exact", "instanceof",
            "System.out", "System.exit", "currentTime", "nanoTime", "Random", "package ", "static {", "getMessage", "double",
            "float", "HashMap", "ArrayList"}) {
            Check.due("the source has " + word, source.contains(word), false);
        }
        for (String line : source.split("\n")) {
            boolean stray = line.startsWith("import ") && !line.equals("import java.util.Arrays;")
                    && !line.equals("import java.util.NoSuchElementException;");
            Check.due(line, stray, false);
        }
    }
}
