import java.io.IOException;
import java.lang.reflect.Field;
import java.lang.reflect.Method;
import java.lang.reflect.Modifier;
import java.nio.charset.StandardCharsets;
import java.nio.file.Files;
import java.nio.file.Path;
import java.util.ArrayList;
import java.util.List;
import java.util.regex.Matcher;
import java.util.regex.Pattern;

/** README.md: the answers it tells are those of the class, and no call or constant of the face is left out. */
public final class ReadmeTest {
    private static final Due due = new Due();

    public static void main(String[] args) throws IOException, ReflectiveOperationException {
        String page = Files.readString(Path.of("README.md"), StandardCharsets.US_ASCII);
        names(page);
        answers(page);
        due.end("ReadmeTest");
    }

    private static void names(String page) {
        List<String> face = new ArrayList<>();
        for (Method method : KeptLeaves.class.getDeclaredMethods()) {
            if (Modifier.isPublic(method.getModifiers())) {
                face.add(method.getName());
            }
        }
        for (Field field : KeptLeaves.class.getFields()) {
            face.add(field.getName());
        }
        due.is("calls and constants", face.size(), 45 + 8);
        for (String name : face) {
            due.holds("README.md names " + name, page.contains("`" + name + "`"));
        }
    }

    private static void answers(String page) throws ReflectiveOperationException {
        KeptLeaves x = new KeptLeaves();
        String code = page.substring(page.indexOf("```java"), page.lastIndexOf("```"));
        Matcher line = Pattern.compile("(?m)^x\\.(\\w+)\\(([^)]*)\\); +// (-?\\w+)").matcher(code);
        int told = 0;
        while (line.find()) {
            told++;
            due.is(line.group(), answer(x, line.group(1), line.group(2)), number(line.group(3)));
        }
        due.is("calls that stand in README.md", told, code.split("\nx\\.", -1).length - 1);
        due.holds("it has some", told > 0);
    }

    private static long answer(KeptLeaves x, String name, String given) throws ReflectiveOperationException {
        String[] words = given.isEmpty() ? new String[0] : given.split(", ");
        Object[] numbers = new Object[words.length];
        Class<?>[] types = new Class<?>[words.length];
        for (int i = 0; i < words.length; i++) {
            numbers[i] = number(words[i]);
            types[i] = int.class;
        }
        return ((Number) KeptLeaves.class.getMethod(name, types).invoke(x, numbers)).longValue();
    }

    private static int number(String word) throws ReflectiveOperationException {
        String plain = word.replace("KeptLeaves.", "");
        return Character.isUpperCase(plain.charAt(0)) ? KeptLeaves.class.getField(plain).getInt(null) : Integer.decode(plain);
    }
}
