import java.lang.reflect.Constructor;
import java.lang.reflect.Field;
import java.lang.reflect.Method;
import java.lang.reflect.Modifier;
import java.nio.file.Files;
import java.nio.file.Path;
import java.util.ArrayList;
import java.util.Collections;
import java.util.List;
import java.util.regex.Matcher;
import java.util.regex.Pattern;

/** The public face, and the rules of the language that a look at the class and its file can tell. */
public final class RulesTest {
    private static final String[] METHODS = {
        "type 1", "clear 0", "tells 0", "cuts 0", "carves 3", "slips 3", "swaps 2", "undo 0", "cell 3", "ink 2",
        "made 1", "least 1", "order 1", "wrong 0", "hurt 1", "sees 3", "forget 0", "which 1", "ask 0", "keep 1",
        "back 1", "count 1"};
    private static final String[] CONSTANTS = {"BAD", "STATE", "FULL", "NONE", "NO", "NOT"};
    private static final String[] BANNED = {
        "import", "package", "throw", "throws", "try", "catch", "finally", "synchronized", "assert", "protected",
        "volatile", "transient", "native", "var", "Object", "hashCode", "toString", "Random", "System\\.(?!arraycopy)",
        "\\w*Exact", "->", "::", "@\\w+"};
    private static final List<String> LIBRARY = List.of(
        "Integer.bitCount", "Long.bitCount", "Math.max", "Math.min", "System.arraycopy");
    private static final Due due = new Due();

    public static void main(String[] args) throws Exception {
        face();
        noSharedNames();
        classesInside();
        String text = Files.readString(Path.of(args[0]));
        String code = text.replaceAll("(?s)/\\*.*?\\*/", "").replaceAll("//[^\n]*", "");
        due.holds("signs 1 to 127 alone", text.chars().allMatch(sign -> sign >= 1 && sign <= 127));
        bannedWords(code);
        library(code);
        methodsAreShort(text);
        due.end();
    }

    private static void face() {
        Class<?> c = SlippedBlocks.class;
        due.holds("public and final", Modifier.isPublic(c.getModifiers()) && Modifier.isFinal(c.getModifiers()));
        List<String> open = new ArrayList<>();
        for (Method m : c.getDeclaredMethods()) {
            if (!Modifier.isPrivate(m.getModifiers())) {
                open.add(m.getName() + " " + m.getParameterCount());
                due.holds(m + " is public, answers an int", Modifier.isPublic(m.getModifiers())
                        && !Modifier.isStatic(m.getModifiers()) && m.getReturnType() == int.class);
                for (Class<?> p : m.getParameterTypes()) {
                    due.holds(m + " takes ints", p == int.class);
                }
            }
        }
        List<String> wanted = new ArrayList<>(List.of(METHODS));
        Collections.sort(open);
        Collections.sort(wanted);
        due.holds("methods: " + open, open.equals(wanted));
        List<String> openFields = new ArrayList<>();
        for (Field f : c.getDeclaredFields()) {
            if (!Modifier.isPrivate(f.getModifiers())) {
                openFields.add(f.getName());
            }
        }
        due.holds("constants: " + openFields, openFields.equals(List.of(CONSTANTS)));
        Constructor<?>[] made = c.getDeclaredConstructors();
        due.holds("one public constructor", made.length == 1 && Modifier.isPublic(made[0].getModifiers())
                && made[0].getParameterCount() == 0);
    }

    private static void noSharedNames() {
        List<String> open = new ArrayList<>();
        for (String method : METHODS) {
            open.add(method.substring(0, method.indexOf(' ')));
        }
        for (Method m : SlippedBlocks.class.getDeclaredMethods()) {
            due.holds(m + " shares no name", Modifier.isPublic(m.getModifiers()) || !open.contains(m.getName()));
        }
        for (Class<?> inside : SlippedBlocks.class.getDeclaredClasses()) {
            for (Method m : inside.getDeclaredMethods()) {
                due.holds(m + " shares no name", !open.contains(m.getName()));
            }
        }
    }

    private static void classesInside() {
        Class<?>[] all = SlippedBlocks.class.getDeclaredClasses();
        due.holds("twelve classes at most", all.length < 12);
        for (Class<?> c : all) {
            due.holds(c + " is static", Modifier.isStatic(c.getModifiers()));
            due.holds(c + " has some twenty fields at most", c.getDeclaredFields().length <= 20);
            for (Field f : c.getDeclaredFields()) {
                due.holds(f + ": what is static is final", !Modifier.isStatic(f.getModifiers())
                        || Modifier.isFinal(f.getModifiers()));
            }
            for (Method m : c.getDeclaredMethods()) {
                due.holds(m + " takes seven at most", m.getParameterCount() <= 7);
            }
        }
    }

    private static void bannedWords(String code) {
        for (String banned : BANNED) {
            String pattern = Character.isLetter(banned.charAt(0)) ? "\\b" + banned : banned;
            pattern = banned.matches("\\w+") ? pattern + "\\b" : pattern;
            Matcher m = Pattern.compile(pattern).matcher(code);
            due.holds("none of " + banned + (m.find() ? ": " + m.group() : ""), !m.reset().find());
        }
    }

    /** Rule 4, as far as the class uses the library: a call of another function is to be looked up there first. */
    private static void library(String code) {
        Matcher m = Pattern.compile("\\b[A-Z]\\w*[a-z]\\w*\\.\\w+").matcher(code);
        while (m.find()) {
            due.holds(m.group() + " is one of the library's functions that are used", LIBRARY.contains(m.group()));
        }
    }

    /** Rule 11: some sixty lines; a method's head is indented by one step, or by two in a class inside. */
    private static void methodsAreShort(String text) {
        Matcher m = Pattern.compile("(?ms)^( {4}| {8})(?=[\\w<])[^\\n;=]*\\([^\\n;=]*\\) \\{$.*?^\\1\\}$").matcher(text);
        int methods = 0;
        while (m.find()) {
            String method = m.group();
            due.holds("short: " + method.lines().findFirst().orElse(""), method.lines().count() <= 60);
            methods++;
        }
        due.holds("methods were found: " + methods, methods > 60);
    }
}
