import java.io.IOException;
import java.lang.reflect.Constructor;
import java.lang.reflect.Field;
import java.lang.reflect.Method;
import java.lang.reflect.Modifier;
import java.nio.charset.StandardCharsets;
import java.nio.file.Files;
import java.nio.file.Path;
import java.util.ArrayList;
import java.util.List;
import java.util.TreeSet;
import java.util.regex.Matcher;
import java.util.regex.Pattern;

/** The face of the class, and those rules of LANGUAGE.md that a look at the class and its text can tell. */
final class LanguageTest {
    private static final String[] FACE = {"insert/3", "remove/1", "setLines/3", "setFlag/3", "addNote/4", "removeNote/2",
        "set/2", "undo/0", "pairCount/0", "pairInfo/2", "noteCount/1", "noteInfo/3", "spreadCount/0", "segmentCount/1",
        "segmentInfo/3", "pageInfo/3", "isOverfull/1", "spreadOf/3", "rowOf/3", "shown/3", "cost/0", "bestCost/0",
        "bestBreak/1", "leastHeight/1", "overfullWith/1", "splitPairs/0"};
    private static final String[] FORBIDDEN = {"\\bthrow\\b", "\\btry\\b", "\\bcatch\\b", "\\bsynchronized\\b",
        "\\bassert\\b", "\\bimport\\b", "\\bpackage\\b", "\\bvar\\b", "->", "::", "@", "Exact\\(", "\\bObject\\b",
        "\\bequals\\b", "\\bhashCode\\b", "\\btoString\\b", "\\bSystem\\.(?!arraycopy\\()", "\\bRandom\\b", "\\bThread\\b",
        "\\+ *\"", "\" *\\+", "\\bstatic *\\{", "\\[\\]\\[\\]\\["};

    private LanguageTest() {
    }

    public static void main(String[] args) throws IOException {
        Class<?> face = BilingualSetter.class;
        face(face);
        insideClasses(face);
        text(Files.readString(Path.of("src/main/java/BilingualSetter.java"), StandardCharsets.ISO_8859_1));
        Due.end("LanguageTest");
    }

    private static void holds(String rule, boolean holds) {
        Due.is(rule, holds ? 1 : 0, 1);
    }

    private static void face(Class<?> face) {
        holds("the class is public and final", (face.getModifiers() & (Modifier.PUBLIC | Modifier.FINAL)) == 17);
        TreeSet<String> names = new TreeSet<>();
        for (Method method : face.getDeclaredMethods()) {
            if (!Modifier.isPrivate(method.getModifiers())) {
                names.add(method.getName() + "/" + method.getParameterCount());
                holds(method + " is public, of the object, and answers an int",
                        method.getModifiers() == Modifier.PUBLIC && method.getReturnType() == int.class);
                for (Class<?> type : method.getParameterTypes()) {
                    holds(method + " takes ints", type == int.class);
                }
            }
        }
        holds("the face's methods: " + names, names.equals(new TreeSet<>(List.of(FACE))));
        int constants = 0;
        for (Field field : face.getDeclaredFields()) {
            if (!Modifier.isPrivate(field.getModifiers())) {
                constants++;
                holds(field + " is a public constant", field.getModifiers() == 25 && field.getType() == int.class);
            }
        }
        Due.is("constants of the face", constants, 4);
        Constructor<?>[] constructors = face.getDeclaredConstructors();
        holds("one public constructor", constructors.length == 1 && constructors[0].getModifiers() == Modifier.PUBLIC
                && constructors[0].getParameterCount() == 0);
    }

    private static void insideClasses(Class<?> face) {
        List<Class<?>> classes = new ArrayList<>(List.of(face));
        classes.addAll(List.of(face.getDeclaredClasses()));
        holds("some twelve classes", classes.size() <= 12);
        TreeSet<String> names = new TreeSet<>();
        for (String name : FACE) {
            names.add(name.substring(0, name.indexOf('/')));
        }
        for (Class<?> one : classes) {
            holds(one + " is static", one == face || Modifier.isStatic(one.getModifiers()));
            Due.is(one + ": classes in it", one == face ? 0 : one.getDeclaredClasses().length, 0);
            int fields = 0;
            for (Field field : one.getDeclaredFields()) {
                fields += Modifier.isStatic(field.getModifiers()) ? 0 : 1;
                holds(field + " is final if it is static",
                        !Modifier.isStatic(field.getModifiers()) || Modifier.isFinal(field.getModifiers()));
            }
            holds(one + " has some twenty fields", fields <= 20);
            for (Method method : one.getDeclaredMethods()) {
                holds(method + " takes at most seven parameters", method.getParameterCount() <= 7);
                holds(method + " has a name of its own",
                        Modifier.isPublic(method.getModifiers()) || !names.contains(method.getName()));
            }
        }
    }

    private static void text(String text) {
        for (int n = 0; n < text.length(); n++) {
            if (text.charAt(n) > 126) {
                Due.is("a sign of the text", text.charAt(n), 126);
            }
        }
        String code = text.replaceAll("(?s)/\\*.*?\\*/", "").replaceAll("//[^\n]*", "");
        for (String forbidden : FORBIDDEN) {
            Matcher found = Pattern.compile(forbidden).matcher(code);
            holds("the text has no " + forbidden, !found.find());
        }
        names(code);
        lengths(text.split("\n"));
    }

    /** Of the library the program names Math and System alone. */
    private static void names(String code) {
        TreeSet<String> own = new TreeSet<>(List.of("BilingualSetter", "Math", "System"));
        for (Class<?> one : BilingualSetter.class.getDeclaredClasses()) {
            own.add(one.getSimpleName());
        }
        Matcher found = Pattern.compile("\\b[A-Z]\\w*[a-z]\\w*").matcher(code);
        while (found.find()) {
            holds(found.group() + " may be named", own.contains(found.group()));
        }
    }

    /** A method is known by its indented head, and ends with a bracket that is indented as its head is. */
    private static void lengths(String[] lines) {
        Pattern head = Pattern.compile("( {4}| {8})[a-z].*\\(.*\\) \\{");
        int methods = 0;
        for (int n = 0; n < lines.length; n++) {
            Matcher found = head.matcher(lines[n]);
            if (found.matches() && !lines[n].strip().matches("(if|for|while|switch) .*")) {
                int end = n;
                while (end + 1 < lines.length && !lines[end].equals(found.group(1) + "}")) {
                    end++;
                }
                methods++;
                holds("at most sixty lines: " + lines[n], end - n <= 60);
            }
        }
        holds("methods were found", methods >= FACE.length);
    }
}
