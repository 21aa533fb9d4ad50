import java.lang.reflect.Method;
import java.nio.file.Files;
import java.nio.file.Path;
import java.util.regex.Matcher;
import java.util.regex.Pattern;

/** The examples of README.md, one after the other on one object: a call's answer is the number behind it. */
public final class ReadmeTest {
    private static final Bench BENCH = new Bench();
    private static final Pattern EXAMPLE = Pattern.compile("(?s)```java\n(.*?)```");
    private static final Pattern CALL = Pattern.compile("raster\\.(\\w+)\\(([^)]*)\\)");
    private static final Pattern NUMBER_BEHIND = Pattern.compile("// (-?\\d+)");

    public static void main(String[] args) throws Exception {
        StackRaster raster = new StackRaster();
        int examples = 0;
        Matcher example = EXAMPLE.matcher(Files.readString(Path.of("README.md")));
        while (example.find()) {
            examples++;
            for (String line : example.group(1).split("\n")) {
                followLine(raster, line);
            }
        }
        BENCH.due("examples", examples, 2);
        BENCH.end();
    }

    private static void followLine(StackRaster raster, String line) throws Exception {
        Matcher call = CALL.matcher(line);
        while (call.find()) {
            Object answer = call(raster, call.group(1), call.group(2));
            BENCH.due(line, answer.toString(), call.group(1).equals("token") ? "true" : numberBehind(line));
        }
    }

    private static String numberBehind(String line) {
        Matcher number = NUMBER_BEHIND.matcher(line);
        return number.find() ? number.group(1) : "none is written";
    }

    private static Object call(StackRaster raster, String name, String written) throws Exception {
        String[] words = written.isEmpty() ? new String[0] : written.split(", ");
        Class<?>[] types = new Class<?>[words.length];
        Object[] arguments = new Object[words.length];
        for (int k = 0; k < words.length; k++) {
            types[k] = int.class;
            arguments[k] = Integer.valueOf(words[k]);
        }
        Method method = StackRaster.class.getMethod(name, types);
        return method.invoke(raster, arguments);
    }
}
