import java.io.IOException;
import java.lang.reflect.Method;
import java.nio.file.Files;
import java.nio.file.Path;
import java.util.List;
import java.util.Set;
import java.util.TreeSet;
import java.util.regex.Matcher;
import java.util.regex.Pattern;

/** What README.md shows: its calls, asked from top to bottom, answer as it says, and no call of the face is left out. */
public final class ReadmeTest {
    private static final Due DUE = new Due();
    private static final Pattern CALL = Pattern.compile("x\\.(\\w+)\\((.*)\\); +// (-?\\d+|[A-Z]+)(:.*)?");
    private static final Pattern SET_ROW = Pattern.compile("\\| (\\d+) \\|[^|]*\\| (\\d+) \\| (\\d+) \\| (\\d+) \\|");

    public static void main(String[] args) throws ReflectiveOperationException, IOException {
        List<String> lines = Files.readAllLines(Path.of("README.md"));
        calls(lines);
        rowsOfSet(lines);
        DUE.end();
    }

    private static void calls(List<String> lines) throws ReflectiveOperationException {
        FrozeFirst x = new FrozeFirst();
        Set<String> shown = new TreeSet<>();
        for (String line : lines) {
            if (line.startsWith("x.")) {
                Matcher call = CALL.matcher(line);
                boolean readable = call.matches();
                DUE.holds("can be read: " + line, readable);
                if (readable) {
                    shown.add(call.group(1));
                    DUE.due(line, answer(x, call.group(1), call.group(2)), wanted(call.group(3)));
                }
            }
        }
        for (Method method : FrozeFirst.class.getMethods()) {
            boolean own = method.getDeclaringClass() == FrozeFirst.class;
            if (own) DUE.holds(method.getName() + " is shown", shown.contains(method.getName()));
        }
    }

    private static long answer(FrozeFirst x, String name, String written) throws ReflectiveOperationException {
        for (Method method : FrozeFirst.class.getMethods()) {
            if (method.getName().equals(name)) {
                return ((Number) method.invoke(x, numbers(written, method.getParameterTypes()))).longValue();
            }
        }
        throw new NoSuchMethodException(name);
    }

    private static Object[] numbers(String written, Class<?>[] types) {
        String[] texts = written.isEmpty() ? new String[0] : written.split(", ");
        Object[] numbers = new Object[texts.length];
        for (int i = 0; i < texts.length; i++) {
            long v = texts[i].startsWith("'") ? texts[i].charAt(1) : Long.parseLong(texts[i].replace("L", ""));
            if (types[i] == long.class) numbers[i] = v;
            else numbers[i] = Math.toIntExact(v);
        }
        return numbers;
    }

    private static long wanted(String told) throws ReflectiveOperationException {
        boolean named = Character.isUpperCase(told.charAt(0));
        return named ? FrozeFirst.class.getField(told).getLong(null) : Long.parseLong(told);
    }

    private static void rowsOfSet(List<String> lines) {
        int rows = 0;
        for (String line : lines) {
            Matcher row = SET_ROW.matcher(line);
            if (row.matches()) {
                rowOfSet(Integer.parseInt(row.group(1)), Integer.parseInt(row.group(2)), Integer.parseInt(row.group(3)),
                    Integer.parseInt(row.group(4)));
                rows++;
            }
        }
        DUE.due("rows of what set() sets", rows, 11);
    }

    private static void rowOfSet(int which, int least, int most, int first) {
        FrozeFirst x = new FrozeFirst();
        String name = "set(" + which + ", ";
        DUE.due("told(10 + " + which + ")", x.told(10 + which), first);
        DUE.due(name + (least - 1) + ")", x.set(which, least - 1), FrozeFirst.OUTSIDE);
        DUE.due(name + (most + 1) + ")", x.set(which, most + 1), FrozeFirst.OUTSIDE);
        DUE.due(name + least + ")", x.set(which, least), first);
        DUE.due(name + most + ")", x.set(which, most), least);
    }
}
