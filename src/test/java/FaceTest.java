import java.io.IOException;
import java.lang.reflect.Constructor;
import java.lang.reflect.Executable;
import java.lang.reflect.Field;
import java.lang.reflect.Method;
import java.lang.reflect.Modifier;
import java.nio.charset.StandardCharsets;
import java.nio.file.Files;
import java.nio.file.Path;
import java.util.ArrayList;
import java.util.HashSet;
import java.util.List;
import java.util.Set;
import java.util.TreeSet;
import java.util.regex.Matcher;
import java.util.regex.Pattern;

/** The public face of the document, and the rules of LANGUAGE.md as far as they can be seen from outside. */
public final class FaceTest {
    private static final String SOURCE = "src/main/java/PaperRounds.java";
    private static final int LONGEST_METHOD = 60;

    private static final String[] FACE = {
        "corner 4", "house 3", "dog 3", "pause 3", "carrier 2", "give 2", "giveNone 1", "biscuits 2", "set 2", "days 1",
        "cornerOf 2", "houseOf 2", "shareBits 1", "meanBits 0", "carrierOf 2", "pauseOf 2", "roundAt 2", "round 3",
        "lightest 2", "nextDog 1", "account 1", "count 1", "undo 0", "type 1", "clearText 0", "fault 1", "play 0"};

    private static int wrong = 0;

    private static void holds(boolean right, String what) {
        if (!right) {
            wrong++;
            System.out.println("not so: " + what);
        }
    }

    public static void main(String[] args) throws IOException {
        face();
        classesInside();
        String source = new String(Files.readAllBytes(Path.of(SOURCE)), StandardCharsets.ISO_8859_1);
        signs(source);
        String code = withoutComments(source);
        words(code);
        lengths(code);
        System.out.println("face and language: " + wrong + " wrong");
        if (wrong > 0) {
            System.exit(1);
        }
    }

    private static void face() {
        Class<?> c = PaperRounds.class;
        holds(Modifier.isPublic(c.getModifiers()) && Modifier.isFinal(c.getModifiers()), "the class is public and final");
        holds(c.getPackage() == null || c.getPackage().getName().isEmpty(), "no package");
        Set<String> found = new TreeSet<>();
        Set<String> wanted = new TreeSet<>(List.of(FACE));
        for (Method m : c.getDeclaredMethods()) {
            if (!Modifier.isPrivate(m.getModifiers())) {
                holds(Modifier.isPublic(m.getModifiers()) && !Modifier.isStatic(m.getModifiers()), m + " is public");
                holds(m.getReturnType() == int.class, m + " answers an int");
                for (Class<?> type : m.getParameterTypes()) {
                    holds(type == int.class, m + " takes ints");
                }
                found.add(m.getName() + " " + m.getParameterCount());
            }
        }
        holds(found.equals(wanted), "the methods of the face are " + wanted + " but found " + found);
        Constructor<?>[] makers = c.getDeclaredConstructors();
        holds(makers.length == 1 && makers[0].getParameterCount() == 0
            && Modifier.isPublic(makers[0].getModifiers()), "one public constructor");
        int constants = 0;
        for (Field f : c.getDeclaredFields()) {
            if (!Modifier.isPrivate(f.getModifiers())) {
                constants++;
                int how = f.getModifiers();
                holds(Modifier.isPublic(how) && Modifier.isStatic(how) && Modifier.isFinal(how)
                    && f.getType() == int.class, f + " is a constant");
            }
        }
        holds(constants == 4, "four constants");
    }

    private static void classesInside() {
        List<Class<?>> all = new ArrayList<>(List.of(PaperRounds.class.getDeclaredClasses()));
        for (Class<?> c : all) {
            int how = c.getModifiers();
            holds(Modifier.isStatic(how) && !Modifier.isPublic(how) && !Modifier.isProtected(how), c + " is static and not seen");
        }
        all.add(PaperRounds.class);
        holds(all.size() <= 12, "at most 12 classes");
        Set<String> names = new HashSet<>();
        for (String each : FACE) {
            names.add(each.substring(0, each.indexOf(' ')));
        }
        for (Class<?> c : all) {
            int fields = 0;
            for (Field f : c.getDeclaredFields()) {
                if (Modifier.isStatic(f.getModifiers())) {
                    holds(Modifier.isFinal(f.getModifiers()), f + " is final");
                } else {
                    fields++;
                }
            }
            holds(fields <= 20, c + " has at most 20 fields");
            List<Executable> calls = new ArrayList<>(List.of(c.getDeclaredMethods()));
            calls.addAll(List.of(c.getDeclaredConstructors()));
            for (Executable e : calls) {
                holds(e.getParameterCount() <= 7, e + " takes at most 7");
                holds(c == PaperRounds.class && Modifier.isPublic(e.getModifiers()) || !names.contains(e.getName()),
                    e + " has a name of its own");
            }
        }
    }

    private static void signs(String source) {
        for (int i = 0; i < source.length(); i++) {
            char sign = source.charAt(i);
            holds(sign == '\n' || sign >= 32 && sign < 127, "sign " + (int) sign + " at " + i);
        }
    }

    private static String withoutComments(String source) {
        return source.replaceAll("(?s)/\\*.*?\\*/", "").replaceAll("//[^\n]*", "");
    }

    private static void words(String code) {
        String[] banned = {
            "->", "::", "\\bimport\\b", "\\bpackage\\b", "\\bcatch\\b", "\\btry\\b", "\\bthrow\\b", "\\bthrows\\b",
            "\\bfinally\\b", "\\bassert\\b", "\\bsynchronized\\b", "\\bvar\\b", "Exact\\b", "\\bFloat\\b", "\\bDouble\\b",
            "\\bObject\\b", "\\bThread\\b", "\\bRandom\\b", "\\bhashCode\\b", "\\btoString\\b", "\\bequals\\b",
            "\"\\s*\\+", "\\+\\s*\"", "@", "\\bSystem\\.(?!arraycopy\\()", "\\bMath\\."};
        for (String word : banned) {
            Matcher m = Pattern.compile(word).matcher(code);
            holds(!m.find(), "no " + word);
        }
    }

    // A method starts four or eight spaces in and ends with a brace of the same depth.
    private static void lengths(String code) {
        Matcher m = Pattern.compile("(?m)^((?:    )?    )(?=\\S)[^;=\n]*\\) \\{\n((?:.*\n)*?)\\1\\}$").matcher(code);
        int methods = 0;
        while (m.find()) {
            methods++;
            int lines = m.group(2).split("\n").length;
            holds(lines <= LONGEST_METHOD, "a method of " + lines + " lines: " + m.group().split("\n")[0]);
        }
        holds(methods > 40, "methods are found: " + methods);
    }
}
