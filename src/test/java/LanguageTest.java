import java.io.IOException;
import java.lang.reflect.Constructor;
import java.lang.reflect.Field;
import java.lang.reflect.Method;
import java.lang.reflect.Modifier;
import java.nio.file.Files;
import java.nio.file.Path;
import java.util.ArrayList;
import java.util.List;
import java.util.Set;
import java.util.TreeSet;
import java.util.regex.Matcher;
import java.util.regex.Pattern;

// Looks at the class for what ../shared/LANGUAGE.md rules out, as far as a few patterns and reflection can tell.
public final class LanguageTest {
    private static final String SOURCE = "src/main/java/AgesByMiles.java";
    private static final Set<String> FACE = new TreeSet<>(List.of("int feed(int,long)", "int land()",
        "int far(int,int)", "int thing(int,int)", "int set(int,int)", "int go(int)", "int have(int)",
        "int worthAt(int,int,int)", "int may(int)", "int life(int)", "int nextLife()", "int order(int,long)",
        "int lived(int,int)", "int best(int)", "int house()", "int call(int,int,int)", "long calls(int,int,int)",
        "int goes(int,int,int)", "int together(int,int)", "int child(int,int,int)", "int person(int,int)",
        "int send(int,int)", "int wells(int)", "long many(int,int,int,int)", "int stray(int,int)", "int row(int)",
        "int judge(int)", "int image()", "int on()", "int count(int)"));
    private static int wrong = 0;

    private static void must(boolean holds, String rule) {
        if (!holds) {
            wrong++;
            System.out.println("not as LANGUAGE.md says: " + rule);
        }
    }

    public static void main(String[] args) throws IOException {
        face();
        classes();
        words(code(Files.readString(Path.of(SOURCE))));
        System.out.println(wrong == 0 ? "the language is kept to" : wrong + " rules are not kept to");
        if (wrong != 0) {
            System.exit(1);
        }
    }

    private static void face() {
        must(Modifier.isFinal(AgesByMiles.class.getModifiers()), "1: the class is final");
        Set<String> found = new TreeSet<>();
        Set<String> names = new TreeSet<>();
        for (Method m : AgesByMiles.class.getDeclaredMethods()) {
            if (Modifier.isPublic(m.getModifiers())) {
                List<String> types = new ArrayList<>();
                for (Class<?> type : m.getParameterTypes()) {
                    types.add(type.getName());
                }
                found.add(m.getReturnType() + " " + m.getName() + "(" + String.join(",", types) + ")");
                names.add(m.getName());
            } else {
                must(Modifier.isPrivate(m.getModifiers()) || m.isSynthetic(), "1: " + m + " is neither public nor private");
            }
        }
        must(found.equals(FACE), "1: the face is " + FACE + ", not " + found);
        for (Class<?> c : withNested()) {
            for (Method m : c.getDeclaredMethods()) {
                must(c == AgesByMiles.class && Modifier.isPublic(m.getModifiers()) || !names.contains(m.getName()),
                    "1: " + m + " bears the name of a public one");
            }
        }
        Constructor<?>[] made = AgesByMiles.class.getDeclaredConstructors();
        must(made.length == 1 && Modifier.isPublic(made[0].getModifiers()), "1: one public constructor");
    }

    private static List<Class<?>> withNested() {
        List<Class<?>> all = new ArrayList<>();
        all.add(AgesByMiles.class);
        all.addAll(List.of(AgesByMiles.class.getDeclaredClasses()));
        return all;
    }

    private static void classes() {
        must(withNested().size() <= 12, "11: at most twelve classes");
        for (Class<?> c : withNested()) {
            must(c == AgesByMiles.class || Modifier.isStatic(c.getModifiers()), "2: " + c + " is static");
            int fields = 0;
            for (Field f : c.getDeclaredFields()) {
                boolean isStatic = Modifier.isStatic(f.getModifiers());
                must(!isStatic || Modifier.isFinal(f.getModifiers()), "5: " + f + " is final");
                must(c != AgesByMiles.class || Modifier.isPrivate(f.getModifiers()), "1: " + f + " is private");
                fields += isStatic ? 0 : 1;
            }
            must(fields <= 20, "11: " + c + " has " + fields + " fields");
            for (Method m : c.getDeclaredMethods()) {
                must(m.getParameterCount() <= 7, "11: " + m + " takes at most seven parameters");
            }
        }
    }

    /** The code without comments. */
    private static String code(String source) {
        return source.replaceAll("(?s)/\\*.*?\\*/", "").replaceAll("//[^\n]*", "");
    }

    private static void words(String code) {
        String[] ruledOut = {"throw", "throws", "try", "catch", "finally", "synchronized", "assert", "package", "var",
            "Object", "Random", "Scanner", "System\\.(?!arraycopy\\b)", "->", "::", "@", "Thread", "Exact\\s*\\(",
            "\\bnull\\b", "hashCode", "toString", "volatile", "native", "while\\s*\\(\\s*true"};
        for (String word : ruledOut) {
            boolean isName = Character.isLetter(word.charAt(0));
            Matcher m = Pattern.compile(isName ? "\\b" + word : word).matcher(code);
            boolean found = m.find();
            boolean partOfName = found && isName && m.end() < code.length()
                && Character.isLetterOrDigit(code.charAt(m.end())) && !word.endsWith(")");
            must(!found || partOfName, "4, 6: " + word);
        }
        Matcher imports = Pattern.compile("import ([\\w.*]+);").matcher(code);
        while (imports.find()) {
            must(Set.of("java.util.Arrays", "java.util.ArrayList", "java.util.List").contains(imports.group(1)),
                "4: import of " + imports.group(1));
        }
        must(code.chars().allMatch(c -> c < 128), "4: signs are 1 to 127");
        int start = 0;
        String[] lines = code.split("\n");
        for (int i = 0; i < lines.length; i++) {
            if (lines[i].matches("\\s+[\\w\\s\\[\\]]+\\([^;]*\\)\\s*\\{") && !lines[i].matches("\\s+(if|for|while|switch|do)\\b.*")) {
                start = i;
            }
            if (lines[i].matches("    (    )?\\}")) {
                must(i - start <= 60, "11: the method at line " + start + " is longer than sixty lines");
            }
        }
    }
}
