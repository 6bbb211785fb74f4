import com.sun.management.ThreadMXBean;
import java.lang.management.ManagementFactory;
import java.lang.reflect.Constructor;
import java.lang.reflect.Field;
import java.lang.reflect.Method;
import java.lang.reflect.Modifier;
import java.nio.charset.StandardCharsets;
import java.nio.file.Files;
import java.nio.file.Path;
import java.util.Arrays;
import java.util.Map;
import java.util.Set;
import java.util.TreeMap;
import java.util.TreeSet;
import java.util.regex.Matcher;
import java.util.regex.Pattern;

/** The rules of LANGUAGE.md that a program can look at, the document's face, and the room that calls take. */
public final class RulesTest {
    private static final Due due = new Due();
    private static final Path SOURCE = Path.of("src/main/java/KeptLeaves.java");
    private static final Path DOCUMENT = Path.of("../shared/DOC.md");

    public static void main(String[] args) throws Exception {
        String source = withoutComments(Files.readString(SOURCE, StandardCharsets.US_ASCII));
        words(source);
        methods(source);
        library(source);
        depth(source);
        face();
        others();
        callsMakeNothing();
        due.end("RulesTest");
    }

    private static String withoutComments(String source) {
        return source.replaceAll("(?s)/\\*.*?\\*/", "").replaceAll("//[^\n]*", "").replaceAll("\"[^\"\n]*\"", "\"\"");
    }

    private static void words(String source) {
        String[] ruledOut = {"throw", "throws", "try", "catch", "finally", "synchronized", "assert", "float", "double", "import",
            "package", "protected", "volatile", "native", "Object", "NaN", "var", "equals", "hashCode", "toString"};
        for (String word : ruledOut) {
            due.holds("no " + word, !Pattern.compile("\\b" + word + "\\b").matcher(source).find());
        }
        due.holds("no lambda", !source.contains("->"));
        due.holds("no method reference", !source.contains("::"));
        due.holds("no static block", !Pattern.compile("static\\s*\\{").matcher(source).find());
        due.holds("static fields are final", !Pattern.compile("static (?!final)[^(){;=]*[;=]").matcher(source).find());
        due.holds("nested classes are static", !Pattern.compile("(?m)^ +(?!.*static).*\\bclass\\b").matcher(source).find());
        due.holds("twelve classes at most", source.split("\\bclass\\b").length - 1 <= 12);
    }

    private static void methods(String source) {
        Set<String> open = new TreeSet<>();
        Matcher declared = Pattern.compile("(?m)^ +((?:(?:public|private|static|final) )*)[\\w\\[\\]]+ (\\w+)\\(([^)]*)\\) \\{").matcher(source);
        while (declared.find()) {
            if (declared.group(1).contains("public")) {
                open.add(declared.group(2));
            }
        }
        due.is("public methods", open.size(), 45);
        declared.reset();
        while (declared.find()) {
            String name = declared.group(2);
            boolean isOpen = declared.group(1).contains("public");
            due.holds(name + " has no public one's name", isOpen || !open.contains(name));
            due.holds(name + " takes seven at most", declared.group(3).split(",").length <= 7);
            String indent = declared.group().replaceAll("(?s)^( *).*", "$1");
            String body = source.substring(declared.end(), source.indexOf("\n" + indent + "}", declared.end()));
            due.holds(name + " is short", body.split("\n").length <= 60);
        }
    }

    /** The bodies of all methods by their names; those of one name are taken together. */
    private static Map<String, String> bodies(String source) {
        Map<String, String> bodies = new TreeMap<>();
        Matcher declared = Pattern.compile("(?m)^( +)(?:(?:public|private|static|final) )*[\\w\\[\\]]+ (\\w+)\\([^)]*\\) \\{").matcher(source);
        while (declared.find()) {
            int end = source.indexOf("\n" + declared.group(1) + "}", declared.end());
            bodies.merge(declared.group(2), source.substring(declared.end(), end), String::concat);
        }
        return bodies;
    }

    /** Rule 4: what is called is the class's own, or one of the few that the rules name. */
    private static void library(String source) {
        Set<String> own = bodies(source).keySet();
        Set<String> named = Set.of("System.arraycopy", "Math.min", "Math.max", "Integer.bitCount");
        Set<String> ofStrings = Set.of("length", "charAt", "indexOf");
        Matcher call = Pattern.compile("\\b(?:(\\w+)\\.)?(\\w+)\\(").matcher(source);
        Set<String> words = Set.of("if", "for", "while", "switch", "return");
        while (call.find()) {
            String name = call.group(2);
            boolean made = Character.isUpperCase(name.charAt(0));
            boolean fine = made || words.contains(name) || own.contains(name) || ofStrings.contains(name)
                || named.contains(call.group(1) + "." + name);
            due.holds(call.group() + " is own or named by the rules", fine);
        }
    }

    /** Rule 11: calls that are no recursion go at most eight deep. */
    private static void depth(String source) {
        Map<String, String> bodies = bodies(source);
        Map<String, Set<String>> calls = new TreeMap<>();
        for (Map.Entry<String, String> one : bodies.entrySet()) {
            Set<String> called = new TreeSet<>();
            Matcher call = Pattern.compile("\\b(\\w+)\\(").matcher(one.getValue());
            while (call.find()) {
                if (bodies.containsKey(call.group(1))) {
                    called.add(call.group(1));
                }
            }
            calls.put(one.getKey(), called);
        }
        for (String name : bodies.keySet()) {
            due.holds(name + " goes eight deep at most", deepest(calls, name, new TreeSet<>()) <= 8);
        }
    }

    private static int deepest(Map<String, Set<String>> calls, String name, Set<String> open) {
        if (!open.add(name)) {
            return 0;
        }
        int most = 0;
        for (String called : calls.get(name)) {
            most = Math.max(most, deepest(calls, called, open));
        }
        open.remove(name);
        return 1 + most;
    }

    private static void face() throws Exception {
        Set<String> wanted = new TreeSet<>();
        String document = Files.readString(DOCUMENT, StandardCharsets.UTF_8);
        Matcher line = Pattern.compile("(?m)^    public (int|long) (\\w+)\\(([^)]*)\\);").matcher(document);
        while (line.find()) {
            int takes = line.group(3).isEmpty() ? 0 : line.group(3).split(",").length;
            wanted.add(line.group(1) + " " + line.group(2) + " " + takes);
        }
        Set<String> found = new TreeSet<>();
        for (Method method : KeptLeaves.class.getDeclaredMethods()) {
            if (Modifier.isPrivate(method.getModifiers())) {
                continue;
            }
            due.holds(method.getName() + " is public", Modifier.isPublic(method.getModifiers()));
            due.holds(method.getName() + " takes ints", Arrays.stream(method.getParameterTypes()).allMatch(t -> t == int.class));
            found.add(method.getReturnType() + " " + method.getName() + " " + method.getParameterCount());
        }
        due.is("methods of the document", wanted.size(), 45);
        due.holds("the document's methods: " + found, wanted.equals(found));
        due.holds("final", Modifier.isFinal(KeptLeaves.class.getModifiers()));
    }

    private static void others() throws Exception {
        Constructor<?>[] made = KeptLeaves.class.getDeclaredConstructors();
        due.is("constructors", made.length, 1);
        due.holds("the constructor is public", Modifier.isPublic(made[0].getModifiers()));
        String[] names = {"BAD", "NO", "FULL", "NONE", "NOTHING", "KIND", "INDEX", "SIZE"};
        int[] values = {1, 2, 3, 5, 11, 12, 13, 14};
        int open = 0;
        for (Field field : KeptLeaves.class.getDeclaredFields()) {
            if (!Modifier.isPrivate(field.getModifiers())) {
                open++;
            }
        }
        due.is("constants", open, names.length);
        for (int i = 0; i < names.length; i++) {
            due.is(names[i], KeptLeaves.class.getField(names[i]).getInt(null), -1000000000 - values[i]);
        }
    }

    /** All calls of a run live in one room, so that none but the constructor may make anything. */
    private static void callsMakeNothing() {
        ThreadMXBean bean = (ThreadMXBean) ManagementFactory.getThreadMXBean();
        KeptLeaves x = new KeptLeaves();
        callAll(x);
        long ahead = bean.getThreadAllocatedBytes(Thread.currentThread().getId());
        bean.getThreadAllocatedBytes(Thread.currentThread().getId());
        long asking = bean.getThreadAllocatedBytes(Thread.currentThread().getId()) - ahead;
        ahead = bean.getThreadAllocatedBytes(Thread.currentThread().getId());
        callAll(x);
        callAll(x);
        long took = bean.getThreadAllocatedBytes(Thread.currentThread().getId()) - ahead;
        due.holds("calls make nothing, but took " + took + " bytes", took <= asking + 1024);
        ahead = bean.getThreadAllocatedBytes(Thread.currentThread().getId());
        new KeptLeaves();
        took = bean.getThreadAllocatedBytes(Thread.currentThread().getId()) - ahead;
        due.holds("an object is small, but took " + took + " bytes", took <= asking + 32768);
    }

    private static void callAll(KeptLeaves x) {
        x.deal(8);
        x.leaf(0, 1, 1, KeptLeaves.NONE);
        x.told(0, 5);
        x.as(0, 0);
        x.turns(0, 1);
        x.set(0, 0, 3);
        x.leans(3, 1);
        x.space(20);
        x.rule(4);
        x.care(1);
        x.feed(0x7468726f, 0x77206120, 0x20202020);
        x.trim(8);
        x.text();
        x.textTold(0, 1);
        x.why(2);
        for (int i = 0; i < 24; i++) {
            x.plan(i % 8);
        }
        x.run(24);
        x.want(2);
        x.next();
        x.at(0);
        x.would();
        x.least(1);
        x.hold(3);
        x.best(1);
        x.price(2);
        x.means(3);
        x.gap(2, 1);
        x.out(0);
        x.fire(3);
        x.seed(5);
        x.sheet(0, 1, 24);
        x.mark(0, 3, 4);
        x.clear();
        x.pour(0);
        x.reads(0);
        x.copy(0, 0, 0, 1, 3);
        x.lay(0, 1, 0);
        x.ask(0, 0);
        x.lay(0, 2, 0);
        x.item(0, 0);
        x.lay(0, 3, 8);
        x.rest(0, 3);
        x.keep();
        x.tell(1);
        x.check(30);
        x.back();
        x.count(3);
    }
}
