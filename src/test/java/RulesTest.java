import java.io.IOException;
import java.lang.reflect.Constructor;
import java.lang.reflect.Field;
import java.lang.reflect.Method;
import java.lang.reflect.Modifier;
import java.nio.file.Files;
import java.nio.file.Path;
import java.util.Arrays;
import java.util.HashSet;
import java.util.Set;
import java.util.TreeSet;
import java.util.regex.Matcher;
import java.util.regex.Pattern;

/** The document's face, and the rules of LANGUAGE.md that can be seen from the class or its text. */
public final class RulesTest {
    private static final String[] FACE = {
        "boolean emit(int, int, int, int, int)", "boolean guard(int, int, int)",
        "boolean reply(int, int, int, int, int)", "boolean withdraw(int)", "int answer(int)", "int call(int, int)",
        "int channel(boolean)", "int consumer(int)", "int enabled()", "int fired(int)", "int next()",
        "int part(int, int, int, int)", "int pendingAt(int, int)", "int put(int, int)", "int react(int)",
        "int reaction()", "int seal()", "int state(int)", "int taken(int)", "int value(int)",
    };

    private static final String[] FORBIDDEN = {
        "throw", "throws", "try", "catch", "synchronized", "assert", "import", "package", "->", "::", "protected",
        "equals", "hashCode", "toString", "Exact", "native", "volatile", "System.out", "Thread",
    };

    /** Rules 3 and 4: the class needs nothing else of the library, not even all that they allow. */
    private static final Set<String> KNOWN_TYPES =
            Set.of("JoinVessel", "Channel", "Messages", "Match", "Reaction", "Math");

    public static void main(String[] args) throws IOException {
        face();
        noOtherMembers(JoinVessel.class);
        for (Class<?> inside : JoinVessel.class.getDeclaredClasses()) {
            insideClass(inside);
        }
        Due.due("rule 11: classes", JoinVessel.class.getDeclaredClasses().length < 12, true);
        String text = Files.readString(Path.of("src/main/java/JoinVessel.java"));
        String code = text.replaceAll("(?s)/\\*.*?\\*/", "").replaceAll("//[^\n]*", "");
        words(code);
        types(code);
        lengths(text);
        Due.end();
    }

    private static void face() {
        Due.due("rule 1: public and final", Modifier.toString(JoinVessel.class.getModifiers()), "public final");
        Set<String> methods = new TreeSet<>();
        for (Method method : JoinVessel.class.getDeclaredMethods()) {
            if (Modifier.isPublic(method.getModifiers())) {
                methods.add(signature(method));
            }
        }
        Due.due("rule 1: methods", methods.toString(), new TreeSet<>(Arrays.asList(FACE)).toString());
        Set<String> fields = new TreeSet<>();
        for (Field field : JoinVessel.class.getFields()) {
            fields.add(Modifier.toString(field.getModifiers()) + " " + field.getType() + " " + field.getName());
        }
        Due.due("rule 1: constants", fields.toString(), "[public static final int NONE]");
        Constructor<?>[] constructors = JoinVessel.class.getDeclaredConstructors();
        Due.due("rule 1: constructors", Arrays.toString(constructors), "[public JoinVessel()]");
    }

    private static String signature(Method method) {
        String parameters = Arrays.toString(method.getParameterTypes());
        return method.getReturnType() + " " + method.getName() + "("
                + parameters.substring(1, parameters.length() - 1) + ")";
    }

    private static void noOtherMembers(Class<?> type) {
        Set<String> publicNames = new HashSet<>();
        for (String method : FACE) {
            publicNames.add(method.substring(method.indexOf(' ') + 1, method.indexOf('(')));
        }
        int fields = 0;
        for (Field field : type.getDeclaredFields()) {
            int modifiers = field.getModifiers();
            boolean constant = Modifier.isStatic(modifiers) && Modifier.isFinal(modifiers);
            fields += constant ? 0 : 1;
            Due.due("rule 5: " + field, Modifier.isStatic(modifiers) && !constant, false);
            Due.due("rule 1: " + field, Modifier.isPrivate(modifiers) || field.getName().equals("NONE"), true);
        }
        Due.due("rule 11: fields of " + type, fields <= 20, true);
        for (Method method : type.getDeclaredMethods()) {
            boolean isPublic = Modifier.isPublic(method.getModifiers());
            Due.due("rule 1: " + method, isPublic || Modifier.isPrivate(method.getModifiers()), true);
            Due.due("rule 1: name of " + method, !isPublic && publicNames.contains(method.getName()), false);
            Due.due("rule 11: parameters of " + method, method.getParameterCount() <= 7, true);
        }
    }

    private static void insideClass(Class<?> type) {
        Due.due("rule 1: " + type, Modifier.isStatic(type.getModifiers()), true);
        Due.due("rule 1: " + type, Modifier.isPublic(type.getModifiers()), false);
        noOtherMembers(type);
    }

    private static void words(String code) {
        for (String word : FORBIDDEN) {
            String pattern = Character.isLetter(word.charAt(0)) ? "\\b" + word + "\\b" : Pattern.quote(word);
            Due.due("rules 2, 4, 6, 13: " + word, Pattern.compile(pattern).matcher(code).find(), false);
        }
        int made = 0;
        Matcher making = Pattern.compile("\\bnew\\b").matcher(code);
        while (making.find()) {
            made++;
        }
        Matcher inFields = Pattern.compile("private final \\w+(\\[\\])? \\w+ = new ").matcher(code);
        int madeInFields = 0;
        while (inFields.find()) {
            madeInFields++;
        }
        // Two more stand in the constructor: the calls make no objects, so their number costs no room.
        Due.due("rule 12: objects made outside the constructors", made - madeInFields - 2, 0);
        Due.due("rule 12: the constructor's", code.contains("channels[c] = new Channel();")
                && code.contains("reactions[r] = new Reaction();"), true);
    }

    private static void types(String code) {
        Matcher type = Pattern.compile("\\b[A-Z]\\w*[a-z]\\w*").matcher(code);
        Set<String> found = new TreeSet<>();
        while (type.find()) {
            found.add(type.group());
        }
        Due.due("rules 3 and 4: types", found.toString(), new TreeSet<>(KNOWN_TYPES).toString());
        Due.due("rules 3 and 4: full names", Pattern.compile("\\bjavax?\\s*\\.").matcher(code).find(), false);
    }

    private static void lengths(String text) {
        Matcher method = Pattern.compile("(?ms)^( +)(public|private) [^\n;=]*\\) \\{\n.*?^\\1\\}").matcher(text);
        int methods = 0;
        while (method.find()) {
            methods++;
            String first = method.group().trim().split("\n")[0];
            Due.due("rule 11: length of " + first, method.group().split("\n").length <= 60, true);
        }
        Due.due("rule 11: the methods of the face, and more, were found", methods > FACE.length, true);
    }
}
