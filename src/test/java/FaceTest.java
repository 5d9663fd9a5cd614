import java.io.IOException;
import java.lang.reflect.Constructor;
import java.lang.reflect.Field;
import java.lang.reflect.Method;
import java.lang.reflect.Modifier;
import java.nio.file.Files;
import java.nio.file.Path;
import java.util.ArrayList;
import java.util.List;
import java.util.Set;
import java.util.TreeSet;
import java.util.regex.Matcher;
import java.util.regex.Pattern;

/** The document's face, all of it and nothing else, and what can be seen of ../shared/LANGUAGE.md in the text. */
final class FaceTest {
    private static final Due DUE = new Due("FaceTest");

    private static final Set<String> FACE = Set.of("room 4", "road 3", "open 4", "more 3", "close 3", "lift 1",
        "traveller 2", "go 2", "stay 2", "ofPlace 2", "ofRoad 2", "ofClosure 2", "ofTraveller 2", "count 1", "whyShut 2",
        "earliest 3", "latest 3", "way 4", "reach 3", "needed 3", "meet 3", "arrives 2", "canStay 1", "put 1", "wipe 0",
        "fault 0", "carryOut 0", "undo 0", "save 1", "restore 1");
    private static final Set<String> CONSTANTS = Set.of("NO_SUCH", "BAD_VALUE", "BAD_TEXT", "TOO_MANY", "REFUSED",
        "NONE");

    public static void main(String[] args) throws IOException {
        face();
        text(Files.readString(Path.of("src/main/java/GateRoads.java")));
        DUE.end();
    }

    private static void face() {
        Set<String> methods = new TreeSet<>();
        List<String> names = new ArrayList<>();
        for (Method m : GateRoads.class.getDeclaredMethods()) {
            if (!Modifier.isPrivate(m.getModifiers())) {
                methods.add(m.getName() + " " + m.getParameterCount());
                names.add(m.getName());
                DUE.is(m + " is public and of the object", m.getModifiers(), Modifier.PUBLIC);
                DUE.is(m + " returns an int", m.getReturnType() == int.class ? 1 : 0, 1);
            }
        }
        same("the methods", methods, new TreeSet<>(FACE));
        for (Method m : GateRoads.class.getDeclaredMethods()) {
            if (Modifier.isPrivate(m.getModifiers()) && names.contains(m.getName())) {
                DUE.is("a private method bears the name " + m.getName(), 1, 0);
            }
        }
        Set<String> fields = new TreeSet<>();
        for (Field f : GateRoads.class.getDeclaredFields()) {
            if (!Modifier.isPrivate(f.getModifiers())) {
                fields.add(f.getName());
            }
        }
        same("the constants", fields, new TreeSet<>(CONSTANTS));
        Constructor<?>[] constructors = GateRoads.class.getDeclaredConstructors();
        DUE.is("constructors", constructors.length, 1);
        DUE.is("the constructor's arguments", constructors[0].getParameterCount(), 0);
        DUE.is("the constructor is public", constructors[0].getModifiers(), Modifier.PUBLIC);
        DUE.is("the class", GateRoads.class.getModifiers(), Modifier.PUBLIC | Modifier.FINAL);
        for (Class<?> inside : GateRoads.class.getDeclaredClasses()) {
            DUE.is(inside + " is static", Modifier.isStatic(inside.getModifiers()) ? 1 : 0, 1);
            sizes(inside);
        }
        sizes(GateRoads.class);
        DUE.is("more than twelve classes", GateRoads.class.getDeclaredClasses().length > 11 ? 1 : 0, 0);
    }

    /** Seven parameters a method and twenty fields a class, beside its constants, are the most. */
    private static void sizes(Class<?> type) {
        for (Method m : type.getDeclaredMethods()) {
            DUE.is(m + " has more than seven parameters", m.getParameterCount() > 7 ? 1 : 0, 0);
        }
        int fields = 0;
        for (Field f : type.getDeclaredFields()) {
            fields += Modifier.isStatic(f.getModifiers()) ? 0 : 1;
        }
        DUE.is(type + " has more than twenty fields", fields > 20 ? 1 : 0, 0);
    }

    private static void same(String what, Set<String> got, Set<String> want) {
        if (!got.equals(want)) {
            DUE.is(what + " " + got + " are not " + want, 0, 1);
        }
    }

    private static void text(String source) {
        String code = source.replaceAll("(?s)/\\*.*?\\*/", "").replaceAll("//[^\n]*", "");
        String[] barred = {"\\bthrow\\b", "\\btry\\b", "\\bcatch\\b", "\\bsynchronized\\b", "\\bassert\\b", "->", "::",
            "\"", "\\bpackage\\b", "Exact\\b", "\\bequals\\b", "\\bhashCode\\b", "\\bprotected\\b"};
        for (String bar : barred) {
            DUE.is("what is barred: " + bar, Pattern.compile(bar).matcher(code).find() ? 1 : 0, 0);
        }
        Matcher imports = Pattern.compile("\\bimport\\b[^;]*").matcher(code);
        while (imports.find()) {
            DUE.is(imports.group(), imports.group().equals("import java.util.Arrays") ? 1 : 0, 1);
        }
        for (char c : source.toCharArray()) {
            DUE.is("a sign of the text", c > 126 ? c : 0, 0);
        }
        methodLengths(code);
    }

    private static void methodLengths(String code) {
        int begin = 0;
        String[] lines = code.split("\n");
        for (int i = 0; i < lines.length; i++) {
            if (lines[i].matches("( {4}| {8})[a-z].*\\(.*\\{")) {
                begin = i;
            }
            if (lines[i].matches("( {4}| {8})\\}") && i - begin > 60) {
                DUE.is("lines of the method in line " + begin, i - begin, 60);
            }
        }
    }
}
