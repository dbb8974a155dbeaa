import java.io.IOException;
import java.lang.reflect.Constructor;
import java.lang.reflect.Field;
import java.lang.reflect.Method;
import java.lang.reflect.Modifier;
import java.nio.file.Files;
import java.nio.file.Path;
import java.util.ArrayList;
import java.util.HashSet;
import java.util.List;
import java.util.NoSuchElementException;
import java.util.Set;
import java.util.TreeSet;
import java.util.regex.Matcher;
import java.util.regex.Pattern;

/** The public face as the document has it, and those rules of LANGUAGE.md that can be seen from outside. */
public final class FaceTest {
    private static final String[] FACE = {
        "int feed(int,int,int,int,int)", "boolean end(int)", "int fault(int)", "int text(int)", "int rule(int)",
        "int edge(int,int)", "int slab(int,int)", "int list(int,int)", "int at(int,int,int,int)",
        "int above(int,int,int)", "int way(int,int,int,int,int)", "int points(int,int)", "int beside(int)",
        "int colours(int)", "int add(int,int,int,int,int)", "int drop(int)", "int tell(int,int)", "int move(int,int)",
        "int ways(int,long)", "int status(int)", "int undo()", "int log(int,int)", "int idle()", "int ends(int)",
        "int like(int,int)", "int stairs(int)", "int would(int,int,int,int,int,int)", "int blocks(int,int,int,int)",
        "int near(int,int)", "int name(int,int)", "int step(int,int,int)", "int run(int,int)", "int perform(int)",
        "int all(int)", "int image()", "int back()", "int count(int)"};

    public static void main(String[] args) throws IOException {
        members();
        classes();
        words(Files.readString(Path.of("src/main/java/SlabMap.java")));
        room();
        Check.close("FaceTest");
    }

    private static String told(Method method) {
        StringBuilder told = new StringBuilder(method.getReturnType().getName());
        told.append(' ').append(method.getName()).append('(');
        for (Class<?> type : method.getParameterTypes()) {
            told.append(told.charAt(told.length() - 1) == '(' ? "" : ",").append(type.getName());
        }
        return told.append(')').toString();
    }

    private static void members() {
        Set<String> due = new TreeSet<>(List.of(FACE));
        Set<String> open = new TreeSet<>();
        Set<String> names = new HashSet<>();
        for (Method method : SlabMap.class.getDeclaredMethods()) {
            if (Modifier.isPublic(method.getModifiers())) {
                open.add(told(method));
                names.add(method.getName());
            } else if (!method.isSynthetic()) {
                Check.yes(method + " is private", Modifier.isPrivate(method.getModifiers()));
            }
        }
        Check.yes("the methods of the face: " + open, open.equals(due));
        for (Method method : SlabMap.class.getDeclaredMethods()) {
            boolean helper = !Modifier.isPublic(method.getModifiers()) && !method.isSynthetic();
            Check.no(method + " bears a public one's name", helper && names.contains(method.getName())
                    && !due.contains(told(method)));
            Class<?>[] thrown = method.getExceptionTypes();
            boolean asDue = method.getName().equals("edge") ? thrown.length == 1
                    && thrown[0] == NoSuchElementException.class : thrown.length == 0;
            Check.yes(method + " throws as the face says", asDue);
        }
        Set<String> open2 = new TreeSet<>();
        for (Field field : SlabMap.class.getDeclaredFields()) {
            if (!Modifier.isPrivate(field.getModifiers())) {
                open2.add(field.toString());
            }
        }
        Check.yes("the constants: " + open2, open2.equals(Set.of("public static final int SlabMap.NONE",
                "public static final int SlabMap.HIDDEN")));
        Constructor<?>[] made = SlabMap.class.getDeclaredConstructors();
        Check.yes("one constructor", made.length == 1 && Modifier.isPublic(made[0].getModifiers())
                && made[0].getParameterCount() == 0);
        Check.yes("a final class", Modifier.isFinal(SlabMap.class.getModifiers()));
    }

    private static void classes() {
        List<Class<?>> classes = new ArrayList<>(List.of(SlabMap.class.getDeclaredClasses()));
        Check.yes("some twelve classes", classes.size() <= 12);
        classes.add(SlabMap.class);
        for (Class<?> type : classes) {
            int fields = 0;
            for (Field field : type.getDeclaredFields()) {
                boolean fixed = Modifier.isStatic(field.getModifiers());
                Check.yes(field + ": a static field is final", !fixed || Modifier.isFinal(field.getModifiers()));
                fields += fixed || field.isSynthetic() ? 0 : 1;
            }
            Check.yes(type + " has some twenty fields: " + fields, fields <= 20);
            for (Method method : type.getDeclaredMethods()) {
                Check.yes(method + " has at most seven parameters", method.getParameterCount() <= 7);
            }
            if (type != SlabMap.class) {
                Check.yes(type + " is static", Modifier.isStatic(type.getModifiers()));
                Check.no(type + " is hidden", Modifier.isPublic(type.getModifiers())
                        || Modifier.isProtected(type.getModifiers()));
            }
        }
    }

    private static void words(String source) {
        String code = source.replaceAll("(?s)/\\*.*?\\*/", "").replaceAll("//[^\n]*", "");
        String[] banned = {"catch", "finally", "try", "synchronized", "assert", "instanceof", "toString", "hashCode",
            "equals", "Object", "System\\.(?!arraycopy)", "Random", "Thread", "Exact", "->", "::", "package",
            "Arrays\\.(?!copyOf\\b|copyOfRange\\b|fill\\b)", "protected", "Math\\.(?!max|min|abs)"};
        for (String word : banned) {
            boolean plain = Character.isLetter(word.charAt(0)) && !word.contains("\\");
            Matcher matcher = Pattern.compile(plain ? "\\b" + word + "\\b" : word).matcher(code);
            Check.no("the program has " + word, matcher.find());
        }
        Matcher imports = Pattern.compile("import ([^;]+);").matcher(code);
        while (imports.find()) {
            Check.yes(imports.group(1), List.of("java.util.Arrays", "java.util.NoSuchElementException")
                    .contains(imports.group(1)));
        }
        Check.yes("all signs are plain", source.chars().allMatch(c -> c == '\n' || c >= 32 && c < 127));
        int start = -1;
        String[] lines = source.split("\n");
        for (int i = 0; i < lines.length; i++) {
            if (lines[i].matches(" {4}( {4})?\\S.*\\) (throws \\w+ )?\\{")) {
                start = i;
            } else if (start >= 0 && lines[i].matches(" {4}( {4})?\\}")) {
                Check.yes("a short method: " + lines[start].trim(), i - start <= 60);
                start = -1;
            }
        }
    }

    /** What 512 of the dearest calls make beside the object itself: next to nothing. */
    private static void room() {
        com.sun.management.ThreadMXBean bean =
                (com.sun.management.ThreadMXBean) java.lang.management.ManagementFactory.getThreadMXBean();
        long thread = Thread.currentThread().getId();
        long start = bean.getThreadAllocatedBytes(thread);
        SlabMap x = new SlabMap();
        long made = bean.getThreadAllocatedBytes(thread) - start;
        Check.yes("an object takes " + made + " bytes", made < 200000);
        Check.tape(x, "e1,1,1,1,1");
        x.text(0);
        x.ways(40, 1);
        start = bean.getThreadAllocatedBytes(thread);
        int sum = 0;
        for (int i = 0; i < 100; i++) {
            sum += x.ways(40, i) + x.like(40, 0) + x.ends(40) + x.colours(-1) + x.would(0, 0, 1, 1, 1, -2);
        }
        made = bean.getThreadAllocatedBytes(thread) - start;
        Check.yes("500 calls take " + made + " bytes", made < 50000 && sum != 1);
    }
}
