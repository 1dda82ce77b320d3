import java.io.IOException;
import java.lang.reflect.Constructor;
import java.lang.reflect.Field;
import java.lang.reflect.Method;
import java.lang.reflect.Modifier;
import java.nio.file.Files;
import java.nio.file.Path;
import java.util.Set;
import java.util.TreeSet;
import java.util.regex.Matcher;
import java.util.regex.Pattern;

/** The public face, just that; and those rules of LANGUAGE.md that a look at the class or its text can tell. */
public final class FaceTest {
    private static final Due DUE = new Due();
    private static final String[] FACE = {
        "int pail(int,int,int)", "long row(int,long)", "int set(int,int)", "int time(int,int,int)",
        "int at(int,int,int,int)", "int glass(int,int,int)", "int first(int,int,int)", "long odds(int,int,int)",
        "int gain(int,int,int)", "int could(int,int,int,int)", "int any(int,int)", "long chance(int,int,int)",
        "int pairs(int,int)", "int say(int)", "int wipe()", "int fault()", "int tries()", "int tried(int,int)",
        "int said(int,int)", "int ask()", "int draw(int,int,int,int)", "int image(int)", "int restore(int)",
        "int told(int)"};
    private static final String[] CONSTANTS = {
        "int NONE", "int UNKNOWN", "int OUTSIDE", "int STATE", "int FULL", "int NO", "int GONE", "long LOST"};

    public static void main(String[] args) throws ReflectiveOperationException, IOException {
        constants();
        asTheDocumentWritesIt(Files.readString(Path.of("../shared/DOC.md")));
        methods();
        fields();
        inside();
        String code = withoutTexts(Files.readString(Path.of("src/main/java/FrozeFirst.java")));
        words(code);
        madeOnlyInFields(code);
        methodsStayShort(code);
        DUE.end();
    }

    private static void constants() {
        DUE.due("NONE", FrozeFirst.NONE, -6);
        DUE.due("UNKNOWN", FrozeFirst.UNKNOWN, -1);
        DUE.due("OUTSIDE", FrozeFirst.OUTSIDE, -2);
        DUE.due("STATE", FrozeFirst.STATE, -3);
        DUE.due("FULL", FrozeFirst.FULL, -4);
        DUE.due("NO", FrozeFirst.NO, -5);
        DUE.due("GONE", FrozeFirst.GONE, -100000000);
        DUE.due("LOST", FrozeFirst.LOST, -1000000000000000000L);
    }

    /** The lists above are held against the document's own lines, so that they can not be wrong together with the class. */
    private static void asTheDocumentWritesIt(String document) throws ReflectiveOperationException {
        Set<String> written = new TreeSet<>();
        Matcher heads = Pattern.compile("(?m)^    public (int|long) (\\w+)\\((.*)\\);$").matcher(document);
        while (heads.find()) {
            String types = heads.group(3).replaceAll("(int|long) \\w+(, )?", "$1,").replaceAll(",$", "");
            written.add(heads.group(1) + " " + heads.group(2) + "(" + types + ")");
        }
        DUE.holds("the methods that the document writes: " + written, written.equals(new TreeSet<>(Set.of(FACE))));
        Set<String> constants = new TreeSet<>();
        Matcher lines = Pattern.compile("(?m)^    public static final (int|long) (.*);$").matcher(document);
        while (lines.find()) {
            for (String one : lines.group(2).split(", ")) {
                String[] parts = one.split(" = ");
                constants.add(lines.group(1) + " " + parts[0]);
                long value = Long.parseLong(parts[1].replace("L", ""));
                DUE.due(parts[0] + " in the document", FrozeFirst.class.getField(parts[0]).getLong(null), value);
            }
        }
        DUE.holds("the constants that the document writes: " + constants, constants.equals(new TreeSet<>(Set.of(CONSTANTS))));
    }

    private static void methods() {
        Set<String> seen = new TreeSet<>();
        Set<String> names = new TreeSet<>();
        for (Method method : FrozeFirst.class.getDeclaredMethods()) {
            if (Modifier.isPublic(method.getModifiers())) {
                seen.add(told(method));
                names.add(method.getName());
                DUE.holds(method.getName() + " is of the object", !Modifier.isStatic(method.getModifiers()));
            }
        }
        DUE.holds("just the methods of the face: " + seen, seen.equals(new TreeSet<>(Set.of(FACE))));
        for (Method method : FrozeFirst.class.getDeclaredMethods()) {
            if (!Modifier.isPublic(method.getModifiers())) {
                DUE.holds(method.getName() + " is private", Modifier.isPrivate(method.getModifiers()));
                DUE.holds(method.getName() + " has a name of its own", !names.contains(method.getName()));
            }
            DUE.holds(method.getName() + " takes at most seven", method.getParameterCount() <= 7);
        }
        Constructor<?>[] constructors = FrozeFirst.class.getDeclaredConstructors();
        DUE.due("constructors", constructors.length, 1);
        DUE.holds("the constructor is public", Modifier.isPublic(constructors[0].getModifiers()));
        DUE.due("the constructor takes", constructors[0].getParameterCount(), 0);
    }

    private static String told(Method method) {
        StringBuilder text = new StringBuilder(method.getReturnType().getName());
        text.append(' ').append(method.getName()).append('(');
        String between = "";
        for (Class<?> type : method.getParameterTypes()) {
            text.append(between).append(type.getName());
            between = ",";
        }
        return text.append(')').toString();
    }

    private static void fields() {
        Set<String> seen = new TreeSet<>();
        for (Field field : FrozeFirst.class.getDeclaredFields()) {
            int modifiers = field.getModifiers();
            if (Modifier.isPublic(modifiers)) {
                seen.add(field.getType().getName() + " " + field.getName());
                DUE.holds(field.getName() + " is a constant", Modifier.isStatic(modifiers) && Modifier.isFinal(modifiers));
            } else {
                DUE.holds(field.getName() + " is private", Modifier.isPrivate(modifiers));
            }
        }
        DUE.holds("just the constants of the face: " + seen, seen.equals(new TreeSet<>(Set.of(CONSTANTS))));
    }

    private static void inside() {
        DUE.holds("the class is public and final", (FrozeFirst.class.getModifiers() & 17) == 17);
        Class<?>[] classes = FrozeFirst.class.getDeclaredClasses();
        DUE.holds("at most twelve classes", classes.length + 1 <= 12);
        for (Class<?> one : classes) {
            DUE.holds(one.getName() + " is static", Modifier.isStatic(one.getModifiers()));
            DUE.holds(one.getName() + " is not public", !Modifier.isPublic(one.getModifiers()));
            int own = 0;
            for (Field field : one.getDeclaredFields()) {
                if (!Modifier.isStatic(field.getModifiers())) own++;
                else DUE.holds(field.getName() + " is final", Modifier.isFinal(field.getModifiers()));
            }
            DUE.holds(one.getName() + " has at most twenty fields", own <= 20);
        }
    }

    private static String withoutTexts(String code) {
        return code.replaceAll("(?s)/\\*.*?\\*/", "").replaceAll("//[^\n]*", "").replaceAll("\"[^\"\n]*\"", "\"\"");
    }

    private static void words(String code) {
        String[] ruledOut = {
            "import", "package", "try", "catch", "finally", "throw", "throws", "synchronized", "assert", "double",
            "float", "Object", "System\\.(?!arraycopy)", "\\w+Exact", "->", "::", "hashCode", "toString", "getClass",
            "static\\s*\\{", "instanceof", "Thread", "Random", "var"};
        for (String word : ruledOut) {
            String bounded = Character.isLetter(word.charAt(0)) ? "\\b" + word + (word.matches("\\w+") ? "\\b" : "") : word;
            DUE.holds("no " + word, !Pattern.compile(bounded).matcher(code).find());
        }
        DUE.holds("signs 1 to 127 alone", code.chars().allMatch(sign -> sign < 128));
    }

    /** What calls would make would be counted against the run's room: all is made with the object. */
    private static void madeOnlyInFields(String code) {
        for (String line : code.split("\n")) {
            if (line.contains("new ")) DUE.holds("made in a field: " + line.trim(), line.matches("\\s+(private )?final .*;"));
        }
    }

    private static void methodsStayShort(String code) {
        Matcher heads = Pattern.compile("(?m)^( +)[\\w\\[\\] ]+\\([^)]*\\) \\{$").matcher(code);
        int seen = 0;
        while (heads.find()) {
            int end = code.indexOf("\n" + heads.group(1) + "}", heads.end());
            String body = code.substring(heads.start(), end);
            seen++;
            DUE.holds("short: " + heads.group().trim(), body.split("\n").length <= 60);
        }
        DUE.holds("methods were seen", seen >= FACE.length);
    }
}
