import java.io.IOException;
import java.lang.reflect.Field;
import java.lang.reflect.Method;
import java.lang.reflect.Modifier;
import java.nio.file.Files;
import java.nio.file.Path;
import java.util.ArrayList;
import java.util.Arrays;
import java.util.List;
import java.util.Set;
import java.util.TreeSet;
import java.util.regex.Matcher;
import java.util.regex.Pattern;

/** The face of the document, and such rules of LANGUAGE.md as can be looked up. */
public final class RulesTest {
    private static final Path SOURCE = Path.of("src/main/java/PouredTopmost.java");

    private static final Set<String> FACE = new TreeSet<>(List.of(
        "int letters(long)", "int blank()", "int fault()", "int tower()", "int about(int,int)",
        "int as(int,int)", "int pour(int,int)", "long in(int,int)", "long all(int,int)",
        "int drink(int)", "long drunk(int,int)", "int clear()", "int need(int,int)",
        "int needAll(int)", "int change(int,int)", "long costs(int,int,int)",
        "int turn(int,int)", "int evening(int,int)", "int chips(int)", "int alike(int)",
        "int pourings(int,int,int)", "int image()", "int restore()", "int count(int)",
        "long digest()"));

    public static void main(String[] args) throws IOException {
        face();
        members();
        classesInside();
        words();
        objectsAreMadeWithTheObject();
        methodsAreShort();
        Check.end();
    }

    private static String told(Method method) {
        StringBuilder types = new StringBuilder();
        for (Class<?> type : method.getParameterTypes()) {
            types.append(types.length() == 0 ? "" : ",").append(type.getSimpleName());
        }
        return method.getReturnType().getSimpleName() + " " + method.getName() + "(" + types + ")";
    }

    private static void face() {
        Set<String> found = new TreeSet<>();
        for (Method method : PouredTopmost.class.getDeclaredMethods()) {
            if (Modifier.isPublic(method.getModifiers())) {
                found.add(told(method));
            }
        }
        Check.isTrue("the face is " + found, found.equals(FACE));
        int modifiers = PouredTopmost.class.getModifiers();
        Check.isTrue("public and final", Modifier.isPublic(modifiers) && Modifier.isFinal(modifiers));
        Check.due("constructors", PouredTopmost.class.getConstructors().length, 1);
        Check.due("all constructors", PouredTopmost.class.getDeclaredConstructors().length, 1);
        Check.due("constants", PouredTopmost.class.getFields().length, 5);
    }

    /** Rule 1: what is not of the face is private, and of another name. */
    private static void members() {
        Set<String> names = new TreeSet<>();
        FACE.forEach(call -> names.add(call.substring(call.indexOf(' ') + 1, call.indexOf('('))));
        for (Class<?> type : all()) {
            for (Method method : type.getDeclaredMethods()) {
                boolean isPublic = Modifier.isPublic(method.getModifiers());
                Check.isTrue("parameters of " + method, method.getParameterCount() <= 7);
                Check.isTrue("name of " + method, isPublic || !names.contains(method.getName()));
            }
        }
        for (Method method : PouredTopmost.class.getDeclaredMethods()) {
            Check.isTrue("of the face or private: " + method,
                (method.getModifiers() & (Modifier.PUBLIC | Modifier.PRIVATE)) != 0);
        }
        for (Field field : PouredTopmost.class.getDeclaredFields()) {
            Check.isTrue("of the face or private: " + field,
                (field.getModifiers() & (Modifier.PUBLIC | Modifier.PRIVATE)) != 0);
        }
    }

    private static List<Class<?>> all() {
        List<Class<?>> types = new ArrayList<>(Arrays.asList(PouredTopmost.class.getDeclaredClasses()));
        types.add(PouredTopmost.class);
        return types;
    }

    /** Rules 1, 2, 5 and 11. */
    private static void classesInside() {
        Check.isTrue("classes", all().size() <= 12);
        for (Class<?> type : PouredTopmost.class.getDeclaredClasses()) {
            Check.isTrue("static and not public: " + type, Modifier.isStatic(type.getModifiers())
                && !Modifier.isPublic(type.getModifiers()));
        }
        for (Class<?> type : all()) {
            int own = 0;
            for (Field field : type.getDeclaredFields()) {
                boolean isStatic = Modifier.isStatic(field.getModifiers());
                Check.isTrue("static is final: " + field,
                    !isStatic || Modifier.isFinal(field.getModifiers()));
                own += isStatic ? 0 : 1;
            }
            Check.isTrue("fields of " + type, own <= 20);
        }
    }

    /** The source without comments and texts. */
    private static String code() throws IOException {
        String text = Files.readString(SOURCE);
        return text.replaceAll("(?s)/\\*.*?\\*/", "").replaceAll("//[^\n]*", "")
            .replaceAll("\"[^\"\n]*\"", "TEXT").replaceAll("'[^']*'", "SIGN");
    }

    /** Rules 4, 6 and 13: words that the program has no use for. */
    private static void words() throws IOException {
        String code = code();
        String[] never = {"\\bthrow\\b", "\\bthrows\\b", "\\btry\\b", "\\bcatch\\b",
            "\\bsynchronized\\b", "\\bassert\\b", "->", "::", "\\bpackage\\b", "\\bprotected\\b",
            "Exact\\b", "\\bhashCode\\b", "\\btoString\\b", "\\bequals\\b", "\\bThread\\b",
            "\\bRandom\\b", "nanoTime", "currentTimeMillis", "\\bvar\\b", "\\bObject\\b"};
        for (String word : never) {
            Check.isTrue("without " + word, !Pattern.compile(word).matcher(code).find());
        }
        Matcher imports = Pattern.compile("import ([^;]*);").matcher(code);
        while (imports.find()) {
            Check.isTrue(imports.group(1), imports.group(1).equals("java.util.Arrays"));
        }
    }

    /** Rule 12: all rows are made with the object, none by a call. */
    private static void objectsAreMadeWithTheObject() throws IOException {
        for (String line : code().split("\n")) {
            if (line.matches(".*\\bnew\\b.*")) {
                Check.isTrue("a field's: " + line, line.matches(" +(private )?final [^(]*= new .*;"));
            }
            Check.isTrue("no copy: " + line, !line.matches(".*(copyOf\\(|copyOfRange|clone\\().*"));
        }
    }

    /** Rule 11. */
    private static void methodsAreShort() throws IOException {
        String[] lines = Files.readString(SOURCE).split("\n");
        int opened = -1;
        String end = "";
        for (int i = 0; i < lines.length; i++) {
            if (lines[i].matches(" +[^=;/*]*\\) \\{") && !lines[i].matches(" +(if|for|while|switch).*")) {
                opened = i;
                end = lines[i].replaceAll("\\S.*", "") + "}";
            } else if (opened >= 0 && lines[i].equals(end)) {
                Check.isTrue("short: " + lines[opened], i - opened < 60);
                opened = -1;
            }
        }
    }
}
