import java.lang.reflect.Field;
import java.lang.reflect.Method;
import java.lang.reflect.Modifier;
import java.nio.file.Files;
import java.nio.file.Path;
import java.util.Set;
import java.util.TreeSet;

/** The face as the document has it, and such rules of the language as can be seen from outside. */
public final class FaceTest {
    private static final String[] FACE = {"feed(int,int,int,int,int):int", "text(int):int", "fault(int):int", "named(int,int):int",
        "glass(int,int):int", "man(int,int):int", "payment(int,int):int", "law(int,int):long", "flip(int):int",
        "pour(int,int,int):int", "dry(int):boolean", "go(int):int", "ahead(int,int,int):int", "empty(int):int", "open(int,int):int",
        "vigil(int,int):int", "apart():int", "carry(int,int):int", "comes(int):int", "even(int,int):int",
        "staysDry(int,int,int):long", "richest():int", "rests(int):int", "rest(int,int):int", "let(int,int,int):int",
        "nextShort(int):int", "heaviest():int", "wets():int", "richestIn(int):int", "sift(int):int", "rank(int):int", "toCome():int",
        "see(int,int,int,boolean):int", "strike(int):int", "known(int):boolean", "necks(int):int", "chance(int,int,int):int",
        "tried(int,int,int):int", "undo():int", "keep():int", "back():int", "count(int):int"};

    public static void main(String[] args) throws Exception {
        Set<String> want = new TreeSet<>(java.util.Arrays.asList(FACE));
        Set<String> names = new TreeSet<>();
        int found = 0;
        for (Method m : SandHours.class.getDeclaredMethods()) {
            if (Modifier.isPrivate(m.getModifiers())) {
                continue;
            }
            StringBuilder said = new StringBuilder(m.getName()).append('(');
            for (Class<?> c : m.getParameterTypes()) {
                said.append(said.charAt(said.length() - 1) == '(' ? "" : ",").append(c.getName());
            }
            said.append("):").append(m.getReturnType().getName());
            Check.due("in the face: " + said, want.contains(said.toString()), true);
            names.add(m.getName());
            found++;
        }
        Check.due("methods of the face", found, FACE.length);
        for (Method m : SandHours.class.getDeclaredMethods()) {
            Check.due(m.getName() + " is private and bears a public name",
                    Modifier.isPrivate(m.getModifiers()) && names.contains(m.getName()), false);
        }
        for (Field f : SandHours.class.getDeclaredFields()) {
            Check.due("field " + f.getName(), Modifier.isPrivate(f.getModifiers()) || f.getName().equals("NONE"), true);
        }
        kinds(names);
        room();
        source();
        Check.end();
    }

    /** Rules 1, 2, 5 and 11: the class, its constructor and constant, the classes inside it, their fields and methods. */
    private static void kinds(Set<String> faceNames) throws Exception {
        int asked = Modifier.PUBLIC | Modifier.FINAL;
        Check.due("the class is public and final", SandHours.class.getModifiers() & asked, asked);
        Check.due("constructors", SandHours.class.getDeclaredConstructors().length, 1);
        Check.due("the public one", SandHours.class.getConstructors()[0].getParameterCount(), 0);
        int constant = Modifier.PUBLIC | Modifier.STATIC | Modifier.FINAL;
        Check.due("NONE is a constant", SandHours.class.getDeclaredField("NONE").getModifiers() & constant, constant);
        for (Method m : SandHours.class.getMethods()) {
            boolean own = m.getDeclaringClass() == SandHours.class;
            Check.due(m.getName() + " declares", own ? m.getExceptionTypes().length : 0, m.getName().equals("glass") ? 2 : 0);
        }
        Class<?>[] inside = SandHours.class.getDeclaredClasses();
        Check.due("classes", inside.length + 1 <= 12, true);
        oneKind(SandHours.class);
        for (Class<?> c : inside) {
            Check.due(c.getName() + " is static", Modifier.isStatic(c.getModifiers()), true);
            Check.due(c.getName() + " is private", Modifier.isPrivate(c.getModifiers()), true);
            Check.due(c.getName() + " has classes", c.getDeclaredClasses().length, 0);
            oneKind(c);
            for (Method m : c.getDeclaredMethods()) {
                Check.due(c.getName() + "." + m.getName() + " bears a public name", faceNames.contains(m.getName()), false);
            }
        }
    }

    private static void oneKind(Class<?> c) {
        int fields = 0;
        for (Field f : c.getDeclaredFields()) {
            boolean fixed = Modifier.isStatic(f.getModifiers());
            Check.due(c.getName() + "." + f.getName() + " is static, not final", fixed && !Modifier.isFinal(f.getModifiers()), false);
            fields += fixed ? 0 : 1;
        }
        Check.due(c.getName() + " has at most twenty fields", fields <= 20, true);
        for (Method m : c.getDeclaredMethods()) {
            Check.due(c.getName() + "." + m.getName() + " takes at most seven", m.getParameterCount() <= 7, true);
        }
    }

    /** Rule 12: what one object holds is small, and calls add nothing to it. */
    private static void room() throws Exception {
        SandHours x = new SandHours();
        long atFirst = held(x);
        Check.due("objects and arrays of one object", atFirst >> 32 < 150, true);
        Check.due("fields and elements of one object", (int) atFirst < 8000, true);
        Check.tell(x, "man p;glass a p 9 9 2 2;glass b p 9 9 3 3;pay a b 3 5;sieve 2;damp 40;law flow neck + 1;law tax 1;law wind 2;");
        for (int k = 0; k < 60; k++) {
            Check.picture(x);
            x.vigil(0, 30);
            x.chance(k, 9, 1);
            x.carry(0, 1);
            x.rests(0);
            x.flip(k % 2);
            x.see(9, 0, k, true);
            x.keep();
        }
        Check.due("more is held behind many calls", held(x) > atFirst, false);
    }

    /** Objects and arrays (times 2 to the 32) and fields and elements that can be reached from one object. */
    private static long held(Object from) throws Exception {
        java.util.Map<Object, Boolean> found = new java.util.IdentityHashMap<>();
        java.util.ArrayDeque<Object> open = new java.util.ArrayDeque<>();
        found.put(from, true);
        open.add(from);
        long cells = 0;
        while (!open.isEmpty()) {
            Object one = open.remove();
            if (one.getClass().isArray()) {
                cells += java.lang.reflect.Array.getLength(one);
                continue;
            }
            for (Field f : one.getClass().getDeclaredFields()) {
                if (Modifier.isStatic(f.getModifiers())) {
                    continue;
                }
                cells++;
                f.setAccessible(true);
                Object next = f.getType().isPrimitive() ? null : f.get(one);
                if (next != null && found.put(next, true) == null) {
                    open.add(next);
                }
            }
        }
        return ((long) found.size() << 32) + cells;
    }

    private static void source() throws Exception {
        String source = Files.readString(Path.of("src/main/java/SandHours.java"));
        for (String word : new String[] {"catch", "try {", "finally", "synchronized", "assert", "->", "::", "Exact", "instanceof",
            "System.out", "System.exit", "currentTime", "nanoTime", "Random", "package ", "static {", "getMessage", "double",
            "float", "HashMap", "ArrayList"}) {
            Check.due("the source has " + word, source.contains(word), false);
        }
        int from = 0;
        String[] lines = source.split("\n");
        for (int k = 0; k < lines.length; k++) {
            String indent = lines[k].replaceAll("\\S.*", "");
            boolean opens = lines[k].matches(" {4}( {4})?(?!(if|for|while|switch|else|do)\\b)\\w.*\\).*\\{");
            from = opens ? k : from;
            boolean closes = lines[k].matches(" {4}( {4})?\\}") && indent.equals(lines[from].replaceAll("\\S.*", ""));
            Check.due("a method of more than sixty lines: " + lines[from], closes && k - from >= 60, false);
        }
        for (String line : lines) {
            boolean stray = line.startsWith("import ") && !line.equals("import java.util.Arrays;")
                    && !line.equals("import java.util.NoSuchElementException;");
            Check.due(line, stray, false);
        }
    }
}
