import java.lang.management.ManagementFactory;
import java.lang.reflect.Constructor;
import java.lang.reflect.Field;
import java.lang.reflect.Method;
import java.lang.reflect.Modifier;
import java.nio.file.Files;
import java.nio.file.Path;
import java.util.Random;
import java.util.Set;
import java.util.TreeSet;
import java.util.regex.Matcher;
import java.util.regex.Pattern;

/** Rules of LANGUAGE.md that a program can look at: the face, the words, the room, and that no call throws. */
public final class LanguageTest {
    private static final Set<String> FACE = Set.of("long piece(int,int,int,int)", "long reset(int)",
        "long offset(int,int,boolean)", "long trace(int,int,int,int)", "long drop()", "long about(int,int)",
        "long as(int,int)", "long span(int,boolean)", "long tie(int,int,int)", "long untie(int)",
        "long time(int,boolean)", "long apart(int,int,boolean)", "long quarrel()", "long without(int,int,boolean)",
        "long deed(int,int,int,int,int)", "long forget(int)", "long prices(int,int)", "long cost(int)", "long least()",
        "long many()", "long story(int)", "long sure(int)", "long parts(int)", "long ask()", "long tell(int)",
        "long check()", "long count(int)", "long found(int)");
    private static final Set<String> LIBRARY = Set.of("Integer.bitCount(", "Math.max(", "Math.min(", "Arrays.fill(");
    private static final String[] WORDS = {"throw", "throws", "try", "catch", "synchronized", "assert", "float",
        "double", "Exact", "System", "Object", "package", "equals", "hashCode", "toString"};

    public static void main(String[] args) throws Exception {
        lookAtFace();
        lookAtInside();
        lookAtWords();
        lookAtLibrary();
        lookAtMethodLengths();
        callWildly();
        measureRoom();
        Due.end();
    }

    private static void lookAtFace() {
        Set<String> open = new TreeSet<>();
        for (Method method : AfterDesk.class.getDeclaredMethods()) {
            if (Modifier.isPublic(method.getModifiers())) {
                open.add(signature(method));
            } else {
                Due.holds("rule 1: " + method.getName() + " is private", Modifier.isPrivate(method.getModifiers()));
            }
        }
        Due.holds("rule 1: the face is " + open, open.equals(FACE));
        for (Field field : AfterDesk.class.getDeclaredFields()) {
            int kind = field.getModifiers();
            Due.holds("rule 1: " + field.getName() + " is private", Modifier.isPrivate(kind));
            Due.holds("rule 5: " + field, !Modifier.isStatic(kind) || Modifier.isFinal(kind));
        }
        Constructor<?>[] constructors = AfterDesk.class.getDeclaredConstructors();
        Due.is("rule 1: constructors", constructors.length, 1);
        Due.holds("rule 1: it is public", Modifier.isPublic(constructors[0].getModifiers()));
        Due.is("rule 1: it takes nothing", constructors[0].getParameterCount(), 0);
        int modifiers = AfterDesk.class.getModifiers();
        Due.holds("rule 1: public and final", Modifier.isPublic(modifiers) && Modifier.isFinal(modifiers));
    }

    private static String signature(Method method) {
        StringBuilder text = new StringBuilder(method.getReturnType().getName());
        text.append(' ').append(method.getName()).append('(');
        for (int i = 0; i < method.getParameterCount(); i++) {
            text.append(i > 0 ? "," : "").append(method.getParameterTypes()[i].getName());
        }
        return text.append(')').toString();
    }

    private static void lookAtInside() {
        Set<String> names = new TreeSet<>();
        for (String signature : FACE) {
            names.add(signature.substring(5, signature.indexOf('(')));
        }
        Class<?>[] inside = AfterDesk.class.getDeclaredClasses();
        Due.holds("rule 11: at most twelve classes", inside.length < 12);
        for (Class<?> one : inside) {
            int modifiers = one.getModifiers();
            Due.holds("rule 1: " + one + " isn't open", !Modifier.isPublic(modifiers) && !Modifier.isProtected(modifiers));
            Due.holds("rule 2: " + one + " is static", Modifier.isStatic(modifiers));
            Due.holds("rule 11: fields of " + one, one.getDeclaredFields().length <= 20);
            for (Method method : one.getDeclaredMethods()) {
                Due.holds("rule 1: the name of " + method, !names.contains(method.getName()));
                Due.holds("rule 11: parameters of " + method, method.getParameterCount() <= 7);
            }
            for (Field field : one.getDeclaredFields()) {
                int kind = field.getModifiers();
                Due.holds("rule 5: " + field, !Modifier.isStatic(kind) || Modifier.isFinal(kind));
            }
        }
        for (Method method : AfterDesk.class.getDeclaredMethods()) {
            boolean open = Modifier.isPublic(method.getModifiers());
            Due.holds("rule 1: the name of " + method, open || !names.contains(method.getName()));
        }
    }

    private static String program() throws Exception {
        String text = Files.readString(Path.of("src/main/java/AfterDesk.java"));
        return text.replaceAll("(?s)/\\*.*?\\*/", "").replaceAll("//[^\n]*", "");
    }

    private static void lookAtWords() throws Exception {
        String program = program();
        for (String word : WORDS) {
            Due.holds("the program has no " + word, !Pattern.compile("\\b" + word + "\\b").matcher(program).find());
        }
        Due.holds("rule 2: no lambda, no method reference", !program.contains("->") && !program.contains("::"));
        Due.holds("rule 4: Arrays alone", program.split("import ").length == 2
            && program.contains("import java.util.Arrays;"));
    }

    /** Of the library only functions that rule 4 lists, and no fields such as Long.MAX_VALUE; no texts at all. */
    private static void lookAtLibrary() throws Exception {
        String body = program().replace("import java.util.Arrays;", "");
        Matcher use = Pattern.compile("\\b(Integer|Long|Math|Arrays|String|StringBuilder|List|ArrayList)\\b(\\.\\w+\\()?")
            .matcher(body);
        while (use.find()) {
            Due.holds("rule 4: " + use.group(), LIBRARY.contains(use.group()));
        }
        Due.holds("rule 10: no texts", !body.contains("\""));
    }

    private static void lookAtMethodLengths() throws Exception {
        int start = 0;
        int line = 0;
        for (String text : program().split("\n")) {
            line++;
            if (text.matches(" {4}(?: {4})?[a-z].*\\) \\{")) {
                start = line;
            }
            if (text.matches(" {4}(?: {4})?\\}") && start > 0) {
                Due.holds("rule 11: the method up to line " + line, line - start <= 60);
                start = 0;
            }
        }
    }

    private static void callWildly() {
        Random random = new Random(7);
        for (int run = 0; run < 40; run++) {
            AfterDesk x = new AfterDesk();
            for (int i = 0; i < 2000; i++) {
                int[] n = new int[5];
                for (int j = 0; j < n.length; j++) {
                    n[j] = random.nextInt(8) == 0 ? random.nextInt() : random.nextInt(14) - 1;
                }
                Calls.answer(x, Calls.NAMES[random.nextInt(28)], n, random.nextBoolean());
            }
        }
        Due.holds("rule 7: no call throws", true);
    }

    private static void measureRoom() {
        com.sun.management.ThreadMXBean meter = (com.sun.management.ThreadMXBean) ManagementFactory.getThreadMXBean();
        int[] numbers = new int[5];
        runOnce(new AfterDesk(), numbers);
        meter.getCurrentThreadAllocatedBytes();
        long start = meter.getCurrentThreadAllocatedBytes();
        AfterDesk x = new AfterDesk();
        long made = meter.getCurrentThreadAllocatedBytes();
        runOnce(x, numbers);
        long used = meter.getCurrentThreadAllocatedBytes();
        Due.holds("rule 12: a new object takes less than 32 KiB: " + (made - start), made - start < 32768);
        Due.holds("rule 12: calls make nothing: " + (used - made), used - made < 4096);
    }

    private static void runOnce(AfterDesk x, int[] numbers) {
        for (int i = 0; i < 504; i++) {
            numbers[0] = i % 5;
            numbers[1] = i % 3;
            Calls.answer(x, Calls.NAMES[i % 28], numbers, i % 2 == 0);
        }
    }
}
