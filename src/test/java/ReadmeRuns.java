import java.lang.reflect.InvocationTargetException;
import java.lang.reflect.Method;
import java.lang.reflect.Modifier;
import java.nio.file.Files;
import java.nio.file.Path;
import java.util.HashMap;
import java.util.Map;
import java.util.regex.Matcher;
import java.util.regex.Pattern;

/** README.md: the rows of its example answer what stands behind them; each method stands in one group. */
public final class ReadmeRuns {
    private static final Pattern ROW = Pattern.compile("keeper\\.(\\w+)\\(([^)]*)\\); +// => (-?\\w+)\\b.*");
    private static final Pattern GROUP = Pattern.compile("(?m)^\\| ((?:`\\w+`(?:, )?)+) \\|");
    private static final Pattern NAME = Pattern.compile("`(\\w+)`");

    private static int asked = 0;
    private static int wrong = 0;

    public static void main(String[] args) throws Exception {
        String page = Files.readString(Path.of("README.md"));
        askRows(page.substring(page.indexOf("```java"), page.indexOf("```\n", page.indexOf("```java"))));
        int from = page.indexOf("### What each group");
        countNames(page.substring(from, page.indexOf("\n## ", from)));
        System.out.println(asked + " answers asked, " + wrong + " wrong");
        if (wrong != 0 || asked < 10) {
            System.exit(1);
        }
    }

    private static void askRows(String example) throws Exception {
        PairKeeper keeper = new PairKeeper();
        for (String row : example.split("\n")) {
            if (!row.startsWith("keeper.")) {
                continue;
            }
            Matcher parts = ROW.matcher(row);
            if (!parts.matches()) {
                wrong++;
                System.out.println("no answer behind: " + row);
                continue;
            }
            String got = answer(keeper, parts.group(1), parts.group(2));
            asked++;
            if (!got.equals(parts.group(3))) {
                wrong++;
                System.out.println(row + " answered " + got);
            }
        }
    }

    private static String answer(PairKeeper keeper, String name, String inside) throws Exception {
        String[] parts = inside.isEmpty() ? new String[0] : inside.split(", ");
        Class<?>[] types = new Class<?>[parts.length];
        Object[] values = new Object[parts.length];
        for (int k = 0; k < parts.length; k++) {
            types[k] = int.class;
            values[k] = Integer.parseInt(parts[k]);
        }
        try {
            return PairKeeper.class.getMethod(name, types).invoke(keeper, values).toString();
        } catch (InvocationTargetException e) {
            return e.getCause().getClass().getSimpleName();
        }
    }

    private static void countNames(String groups) {
        Map<String, Integer> counts = new HashMap<>();
        Matcher group = GROUP.matcher(groups);
        while (group.find()) {
            Matcher name = NAME.matcher(group.group(1));
            while (name.find()) {
                counts.merge(name.group(1), 1, Integer::sum);
            }
        }
        for (Method method : PairKeeper.class.getDeclaredMethods()) {
            if (Modifier.isPublic(method.getModifiers())) {
                Integer count = counts.remove(method.getName());
                if (count == null || count != 1) {
                    wrong++;
                    System.out.println(method.getName() + " stands in " + count + " groups");
                }
            }
        }
        if (!counts.isEmpty()) {
            wrong++;
            System.out.println("no methods of the face: " + counts.keySet());
        }
    }
}
