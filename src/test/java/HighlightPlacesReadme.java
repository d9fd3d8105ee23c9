import java.lang.reflect.Method;
import java.lang.reflect.Modifier;
import java.nio.file.Files;
import java.nio.file.Path;
import java.util.TreeSet;
import java.util.regex.Matcher;
import java.util.regex.Pattern;

/** README.md tells the answers that its example's calls give, and has every call in the example. */
public final class HighlightPlacesReadme {
    private static final Pattern START = Pattern.compile("HighlightPlaces x = new HighlightPlaces\\(\\);");
    private static final Pattern PUT = Pattern.compile("put\\(x, \"(.*)\"\\);");
    private static final Pattern CALL = Pattern.compile("x\\.(\\w+)\\((.*?)\\); +// (-?\\d+)(.*)");
    private static final Pattern BYTES = Pattern.compile(" bytes: (.*)");

    private static HighlightPlaces x;
    private static final TreeSet<String> called = new TreeSet<>();

    /** The lines of the example, from the object's making to the end of its block. */
    private static void makeCalls() throws Exception {
        for (String line : Files.readAllLines(Path.of("README.md"))) {
            if (START.matcher(line).matches()) {
                x = new HighlightPlaces();
            } else if (line.equals("```")) {
                x = null;
            } else if (x != null) {
                makeCall(line);
            }
        }
    }

    private static void makeCall(String line) throws Exception {
        Matcher put = PUT.matcher(line);
        Matcher call = CALL.matcher(line);
        if (put.matches()) {
            put(x, put.group(1).replace("\\\"", "\""));
        } else if (call.matches()) {
            called.add(call.group(1));
            Bench.due(line, answer(call.group(1), call.group(2)), Integer.parseInt(call.group(3)));
            Matcher bytes = BYTES.matcher(call.group(4));
            if (bytes.matches()) {
                Bench.due(line, putOut(), bytes.group(1));
            }
        } else {
            Bench.due("a line of the example", line, "");
        }
    }

    private static int answer(String name, String arguments) throws Exception {
        String[] parts = arguments.isEmpty() ? new String[0] : arguments.split(", ");
        Object[] values = new Object[parts.length];
        for (int i = 0; i < parts.length; i++) {
            boolean truth = parts[i].equals("true") || parts[i].equals("false");
            values[i] = truth ? (Object) Boolean.valueOf(parts[i]) : (Object) Integer.valueOf(parts[i]);
        }
        for (Method method : HighlightPlaces.class.getDeclaredMethods()) {
            if (method.getName().equals(name) && Modifier.isPublic(method.getModifiers())) {
                return (Integer) method.invoke(x, values);
            }
        }
        throw new IllegalStateException("no call " + name);
    }

    private static String putOut() {
        StringBuilder text = new StringBuilder();
        for (int i = 0; i < x.count(5); i++) {
            text.append((char) x.printed(i));
        }
        return text.toString();
    }

    // These two are README.md's own.

    static void put(HighlightPlaces x, String bytes) {
        for (int i = 0; i < bytes.length(); i += 20) {
            x.feed(four(bytes, i), four(bytes, i + 4), four(bytes, i + 8), four(bytes, i + 12), four(bytes, i + 16));
        }
        x.cut(bytes.length());
    }

    static int four(String bytes, int from) {
        int number = 0;
        for (int i = from; i < from + 4; i++) {
            number = number << 8 | (i < bytes.length() ? bytes.charAt(i) & 255 : ' ');
        }
        return number;
    }

    public static void main(String[] args) throws Exception {
        Bench.begin();
        Bench.part("README.md");
        makeCalls();
        called.add("feed");
        TreeSet<String> face = new TreeSet<>();
        for (Method method : HighlightPlaces.class.getDeclaredMethods()) {
            if (Modifier.isPublic(method.getModifiers())) {
                face.add(method.getName());
            }
        }
        Bench.due("the calls of the example", called.toString(), face.toString());
        Bench.end();
    }
}
