import java.io.IOException;
import java.lang.reflect.Field;
import java.lang.reflect.Method;
import java.lang.reflect.Modifier;
import java.nio.charset.StandardCharsets;
import java.nio.file.Files;
import java.nio.file.Path;
import java.util.ArrayList;
import java.util.HashSet;
import java.util.List;
import java.util.Set;
import java.util.regex.Matcher;
import java.util.regex.Pattern;

/** Rules of ../shared/LANGUAGE.md that a look at the source can tell; run from the project's directory. */
public final class LanguageTest {
    private static final String[] FORBIDDEN = {
        "->", "::", "finally", "catch", "synchronized", "assert ", "instanceof", "package ", "record ", "var ",
        "static {", "Math.addExact", "Integer.MAX", "Integer.MIN", "System.", "String[]", "getMessage", "protected ",
    };
    private static final Check CHECK = new Check();

    public static void main(String[] args) throws IOException {
        String source = Files.readString(Path.of("src/main/java/HoopHours.java"), StandardCharsets.ISO_8859_1);
        CHECK.promise(1, "rules of the language");
        for (String sign : FORBIDDEN) {
            CHECK.is("times of " + sign, 0, source.split(Pattern.quote(sign), -1).length - 1);
        }
        CHECK.is("signs above 127", 0, source.chars().filter(sign -> sign > 127).count());
        CHECK.is("imports", 1, count(source, "(?m)^import ").size() == 1
            && source.startsWith("import java.util.NoSuchElementException;") ? 1 : 0);
        methodNames(source);
        lengths(source);
        classes();
        CHECK.end();
    }

    private static Set<String> count(String source, String pattern) {
        Set<String> found = new HashSet<>();
        Matcher matcher = Pattern.compile(pattern).matcher(source);
        while (matcher.find()) {
            found.add(matcher.groupCount() == 0 ? matcher.group() : matcher.group(1));
        }
        return found;
    }

    private static void methodNames(String source) {
        Set<String> face = count(source, "(?m)^    public (?:int|long) (\\w+)\\(");
        Set<String> own = count(source, "(?m)^ +(?:private )?(?:static )?(?:int|long|boolean|void) (\\w+)\\(");
        CHECK.is("methods of the face", 41, face.size());
        own.retainAll(face);
        CHECK.is("own methods with a name of the face: " + own, 0, own.size());
    }

    /** A method ends at a brace that stands as far in as it begins. */
    private static void lengths(String source) {
        String[] lines = source.split("\n");
        for (int i = 0; i < lines.length; i++) {
            if (lines[i].matches(" +(?!else|return|new)[\\w \\[\\]]+\\w+\\(.*\\{") && !lines[i].matches(" +(if|for|while|switch) .*")) {
                String in = lines[i].substring(0, lines[i].length() - lines[i].stripLeading().length());
                int end = i;
                while (!lines[end].equals(in + "}")) {
                    end++;
                }
                CHECK.is("more than 60 lines from line " + (i + 1), 0, end - i > 60 ? 1 : 0);
            }
        }
    }

    /** Rules 1, 5 and 11: what a class is made of. */
    private static void classes() {
        List<Class<?>> all = new ArrayList<>(List.of(HoopHours.class));
        all.addAll(List.of(HoopHours.class.getDeclaredClasses()));
        CHECK.is("more than twelve classes", 0, all.size() > 12 ? 1 : 0);
        CHECK.is("the face is public and final", Modifier.PUBLIC | Modifier.FINAL, HoopHours.class.getModifiers());
        for (Class<?> one : all) {
            CHECK.is(one + " is the face, or private and static", 1, one == HoopHours.class
                || Modifier.isPrivate(one.getModifiers()) && Modifier.isStatic(one.getModifiers()) ? 1 : 0);
            int fields = 0;
            for (Field field : one.getDeclaredFields()) {
                boolean fixed = Modifier.isStatic(field.getModifiers());
                fields += fixed ? 0 : 1;
                CHECK.is(field + " is final, if it is static", 1, !fixed || Modifier.isFinal(field.getModifiers()) ? 1 : 0);
            }
            CHECK.is(one + " has more than twenty fields", 0, fields > 20 ? 1 : 0);
            for (Method method : one.getDeclaredMethods()) {
                CHECK.is(method + " takes more than seven", 0, method.getParameterCount() > 7 ? 1 : 0);
            }
        }
    }
}
