import java.io.DataInputStream;
import java.io.IOException;
import java.io.InputStream;
import java.lang.management.ManagementFactory;
import java.lang.reflect.Constructor;
import java.lang.reflect.Field;
import java.lang.reflect.Method;
import java.lang.reflect.Modifier;
import java.nio.file.Files;
import java.nio.file.Path;
import java.util.ArrayList;
import java.util.List;
import java.util.Set;
import java.util.TreeSet;
import java.util.regex.Matcher;
import java.util.regex.Pattern;

/** The face, and what a test can see of the rules of LANGUAGE.md. Argument: the program's source. */
public final class RulesTest {
    private static final Check check = new Check();

    private static final String FACE = "MinuteForTheUnread() set(III)I citizen(II)I business(I)I told(II)I feed(I)I text()I "
        + "force(I)I list(I)I by(I)I sit()I run(II)I shortest(I)I fewest(I)I soonest(II)I bribe(I)I order(I)I turned(I)I "
        + "tells(II)I film(I)I drawn(I)I chance(III)J image()I back()I count(I)I sheet(III)I cell(III)I copy(IIIII)I "
        + "citizens(IIII)I taken(II)I int:NONE=-1 int:BAD=-2 int:STATE=-3 int:FULL=-4 long:NO=-4611686018427387904";

    private static final Set<String> LIBRARY = Set.of("java/lang/Object.<init>", "java/lang/String.length",
        "java/lang/String.charAt", "java/lang/Math.max", "java/lang/Math.min", "java/lang/Integer.bitCount",
        "java/lang/System.arraycopy");

    private static final String BANNED = "\\b(throw|throws|try|catch|finally|synchronized|assert|import|package|protected|"
        + "lambda|Thread|Random|double|float|hashCode|equals|toString)\\b|->|::|Exact\\b";

    private static void holds(String rule, boolean holds) {
        check.due(rule, holds ? 1 : 0, 1);
    }

    private static void face() throws IllegalAccessException {
        Class<?> c = MinuteForTheUnread.class;
        Set<String> seen = new TreeSet<>();
        for (Constructor<?> k : c.getDeclaredConstructors()) {
            seen.add(Modifier.isPublic(k.getModifiers()) && k.getParameterCount() == 0 ? c.getName() + "()" : "wrong " + k);
        }
        for (Method m : c.getDeclaredMethods()) {
            if (!Modifier.isPrivate(m.getModifiers())) {
                seen.add((Modifier.isPublic(m.getModifiers()) && !Modifier.isStatic(m.getModifiers()) ? "" : "wrong ")
                    + m.getName() + java.lang.invoke.MethodType.methodType(m.getReturnType(), m.getParameterTypes())
                        .toMethodDescriptorString());
            }
        }
        for (Field f : c.getDeclaredFields()) {
            if (!Modifier.isPrivate(f.getModifiers())) {
                seen.add((f.getModifiers() == (Modifier.PUBLIC | Modifier.STATIC | Modifier.FINAL) ? "" : "wrong ")
                    + f.getType() + ":" + f.getName() + "=" + f.get(null));
            }
        }
        Set<String> due = new TreeSet<>(List.of(FACE.split(" ")));
        holds("the face is " + due + ", here " + seen, seen.equals(due));
        holds("the class is public and final", c.getModifiers() == (Modifier.PUBLIC | Modifier.FINAL));
    }

    private static void members() {
        Set<String> names = new TreeSet<>();
        for (Method m : MinuteForTheUnread.class.getDeclaredMethods()) {
            if (Modifier.isPublic(m.getModifiers())) {
                names.add(m.getName());
            }
        }
        List<Class<?>> all = new ArrayList<>(List.of(MinuteForTheUnread.class.getDeclaredClasses()));
        for (Class<?> c : all) {
            holds(c + " is static", Modifier.isStatic(c.getModifiers()) && !Modifier.isPublic(c.getModifiers()));
            for (Method m : c.getDeclaredMethods()) {
                holds(m + " bears no name of the face", !names.contains(m.getName()));
            }
        }
        all.add(MinuteForTheUnread.class);
        holds("at most 12 classes", all.size() <= 12);
        for (Class<?> c : all) {
            int fields = 0;
            for (Field f : c.getDeclaredFields()) {
                holds(f + " is final if it is static", !Modifier.isStatic(f.getModifiers()) || Modifier.isFinal(f.getModifiers()));
                fields += Modifier.isStatic(f.getModifiers()) ? 0 : 1;
            }
            holds(c + " has at most 20 fields", fields <= 20);
            for (Method m : c.getDeclaredMethods()) {
                holds(m + " takes at most 7", m.getParameterCount() <= 7);
            }
        }
    }

    private static void words(String source) {
        String code = source.replaceAll("(?s)/\\*.*?\\*/|//[^\n]*|\"[^\"\n]*\"", "");
        Matcher m = Pattern.compile(BANNED).matcher(code);
        while (m.find()) {
            holds("no " + m.group(), false);
        }
        int start = -1;
        int line = 0;
        for (String text : source.split("\n")) {
            line++;
            if (text.matches(" {4}( {4})?[^ ].*\\) \\{") ) {
                start = line;
            }
            if (text.matches(" {4}( {4})?\\}") && start > 0) {
                holds("the method at line " + start + " is short", line - start < 60);
                start = -1;
            }
        }
    }

    private static void library() throws IOException {
        List<Class<?>> all = new ArrayList<>(List.of(MinuteForTheUnread.class.getDeclaredClasses()));
        all.add(MinuteForTheUnread.class);
        for (Class<?> c : all) {
            for (String called : called(c)) {
                holds("the library's " + called, !called.startsWith("java") || LIBRARY.contains(called));
            }
        }
    }

    /** All methods that a class names in its class file. */
    private static List<String> called(Class<?> c) throws IOException {
        try (InputStream file = c.getResourceAsStream("/" + c.getName() + ".class");
            DataInputStream in = new DataInputStream(file)) {
            in.readInt();
            in.readInt();
            int n = in.readUnsignedShort();
            String[] texts = new String[n];
            int[][] pairs = new int[n][];
            List<Integer> methods = new ArrayList<>();
            for (int i = 1; i < n; i++) {
                int tag = in.readUnsignedByte();
                switch (tag) {
                    case 1: texts[i] = in.readUTF(); break;
                    case 3: case 4: in.readInt(); break;
                    case 5: case 6: in.readLong(); i++; break;
                    case 7: case 8: case 16: case 19: case 20: pairs[i] = new int[] {in.readUnsignedShort()}; break;
                    case 15: in.readUnsignedByte(); in.readUnsignedShort(); break;
                    default: pairs[i] = new int[] {in.readUnsignedShort(), in.readUnsignedShort()}; break;
                }
                if (tag == 10 || tag == 11 || tag == 17 || tag == 18) {
                    methods.add(i);
                }
            }
            List<String> called = new ArrayList<>();
            for (int i : methods) {
                called.add(texts[pairs[pairs[i][0]][0]] + "." + texts[pairs[pairs[i][1]][0]]);
            }
            return called;
        }
    }

    private static int askAll(MinuteForTheUnread x) {
        int sum = 0;
        for (int i = 0; i < 4; i++) {
            sum += x.list(i) + x.by(i) + x.run(40, 11) + x.shortest(1) + x.fewest(20) + x.soonest(i, 0) + x.bribe(i);
            sum += x.order(0) + x.turned(0) + x.film(0) + x.tells(0, i) + x.tells(0, 4) + x.drawn(i);
            sum += x.tells(0, 10 + i) + x.tells(0, 20 + i) + x.tells(0, 30 + i) + (int) x.chance(i, 20, 1);
            sum += x.image() + x.back() + x.sheet(1, 2, 40) + x.copy(1, 0, 1, 3, 9) + x.citizens(1, 2, 0, 8);
            sum += x.feed('r') + x.text() + x.sit() + x.told(i, 7) + x.taken(i, 0) + x.count(2);
        }
        return sum;
    }

    /** No call makes an object: what the machine lays out meanwhile for itself stays below a handful of rows. */
    private static void room() {
        com.sun.management.ThreadMXBean threads = (com.sun.management.ThreadMXBean) ManagementFactory.getThreadMXBean();
        MinuteForTheUnread x = new MinuteForTheUnread();
        for (int i = 0; i < 8; i++) {
            x.citizen(i % 6, i);
            x.business(100 + i);
        }
        askAll(x);
        long id = Thread.currentThread().getId();
        long before = threads.getThreadAllocatedBytes(id);
        for (int i = 0; i < 100; i++) {
            askAll(x);
        }
        long bytes = threads.getThreadAllocatedBytes(id) - before;
        holds("12,000 calls make no objects, here " + bytes + " bytes", bytes < 4096);
    }

    public static void main(String[] args) throws IOException, IllegalAccessException {
        check.about("rules");
        face();
        members();
        words(Files.readString(Path.of(args[0])));
        library();
        room();
        check.close("RulesTest");
    }
}
