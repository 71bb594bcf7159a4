import java.lang.reflect.Field;
import java.lang.reflect.Method;
import java.lang.reflect.Modifier;
import java.nio.file.Files;
import java.nio.file.Path;
import java.util.Arrays;
import java.util.LinkedHashMap;
import java.util.Map;
import java.util.Set;
import java.util.TreeSet;
import java.util.regex.Matcher;
import java.util.regex.Pattern;
import java.util.stream.Stream;

/** That README.md is true: its examples are run, and its tables are held against the class. */
public final class ReadmeTest {
    private static final Pattern BLOCK = Pattern.compile("(?s)```java\n(.*?)```");
    private static final Pattern TEXT = Pattern.compile("String text = \"(.*)\";");
    private static final Pattern CALL = Pattern.compile("x\\.(\\w+)\\((.*?)\\);\\s*// (-?\\w+).*");
    private static final Pattern LISTED = Pattern.compile("(?m)^\\| `(\\w+)\\((.*?)\\)`( \\*)? \\|.*\\| (.*)\\|$");
    private static final Pattern NAMED = Pattern.compile("(?m)^\\| `(\\w+)` \\| (-\\d+) \\|");
    private static final Pattern FINDING = Pattern.compile("(?m)^\\| finding (\\d), (\\w+) \\| (-\\d+) \\|");

    private static final Checks C = new Checks();
    private static final Map<String, Method> METHODS = new LinkedHashMap<>();

    private ShaftDiscs x = new ShaftDiscs();
    private String text = "";

    public static void main(String[] args) throws Exception {
        for (Method method : ShaftDiscs.class.getDeclaredMethods()) {
            if (Modifier.isPublic(method.getModifiers())) {
                METHODS.put(method.getName(), method);
            }
        }
        String page = Files.readString(Path.of(System.getProperty("project", "."), "README.md"));
        new ReadmeTest().examples(page);
        answersNamed(page);
        callsListed(page);
        testsNamed(page);
        C.end("ReadmeTest");
    }

    private static long call(ShaftDiscs x, String name, int... with) throws Exception {
        Method method = METHODS.get(name);
        if (method == null || method.getParameterCount() != with.length) {
            throw new IllegalArgumentException("no such call: " + name);
        }
        Object[] all = new Object[with.length];
        for (int i = 0; i < with.length; i++) {
            all[i] = with[i];
        }
        return ((Number) method.invoke(x, all)).longValue();
    }

    private void examples(String page) throws Exception {
        int run = 0;
        Matcher blocks = BLOCK.matcher(page);
        while (blocks.find()) {
            for (String line : blocks.group(1).split("\n")) {
                run += example(line.strip()) ? 1 : 0;
            }
        }
        C.holds("the examples have been found: " + run, run > 40);
    }

    /** Whether it was a call with an answer. */
    private boolean example(String line) throws Exception {
        Matcher told = TEXT.matcher(line);
        Matcher made = CALL.matcher(line);
        if (line.equals("ShaftDiscs x = new ShaftDiscs();")) {
            x = new ShaftDiscs();
        } else if (told.matches()) {
            text = told.group(1);
        } else if (line.equals("x.feed(text.charAt(i));")) {
            Checks.feed(x, text);
        } else if (made.matches()) {
            C.due("README: " + line, call(x, made.group(1), numbers(made.group(2))), answer(made.group(3)));
            return true;
        } else {
            C.holds("a line that is understood: " + line, line.startsWith("for (") || line.equals("}"));
        }
        return false;
    }

    private static int[] numbers(String told) {
        String[] parts = told.isEmpty() ? new String[0] : told.split(", ");
        int[] all = new int[parts.length];
        for (int i = 0; i < all.length; i++) {
            all[i] = Integer.parseInt(parts[i]);
        }
        return all;
    }

    private static long answer(String told) throws Exception {
        return Character.isLetter(told.charAt(0)) ? constant(told) : Long.parseLong(told);
    }

    private static int constant(String name) throws Exception {
        Field field = ShaftDiscs.class.getField(name);
        return field.getInt(null);
    }

    private static void answersNamed(String page) throws Exception {
        Set<String> seen = new TreeSet<>();
        Matcher named = NAMED.matcher(page);
        while (named.find()) {
            seen.add(named.group(1));
            C.due("README: " + named.group(1), Long.parseLong(named.group(2)), constant(named.group(1)));
        }
        C.holds("all constants: " + seen, seen.equals(Set.of("NONE", "BAD", "STATE", "FULL")));
        int findings = 0;
        Matcher finding = FINDING.matcher(page);
        while (finding.find()) {
            findings++;
            C.due("README: finding", Integer.parseInt(finding.group(1)), findings);
            int due = Answers.class.getField(finding.group(2)).getInt(null);
            C.due("README: " + finding.group(2), Long.parseLong(finding.group(3)), due);
        }
        C.due("README: findings", findings, 6);
    }

    private static void callsListed(String page) throws Exception {
        Set<String> seen = new TreeSet<>();
        Matcher listed = LISTED.matcher(page);
        while (listed.find()) {
            String name = listed.group(1);
            int parts = listed.group(2).isEmpty() ? 0 : listed.group(2).split(", ").length;
            C.holds("README: once " + name, seen.add(name));
            C.holds("README: it is a call " + name, METHODS.containsKey(name));
            C.due("README: parameters of " + name, parts, METHODS.get(name).getParameterCount());
            refusals(name, parts, listed.group(3) != null, listed.group(4));
        }
        C.holds("README: all calls " + seen, seen.equals(METHODS.keySet()));
    }

    /** With numbers that no call takes: what is told first, and which calls may change status(). */
    private static void refusals(String name, int parts, boolean marked, String told) throws Exception {
        int[] wild = new int[parts];
        Arrays.fill(wild, Integer.MAX_VALUE);
        if (told.contains("`STATE` first")) {
            C.due("README: without a shaft, " + name, call(new ShaftDiscs(), name, wild), Answers.STATE);
        } else if (told.contains("`BAD`")) {
            C.due("README: without a shaft, " + name, call(new ShaftDiscs(), name, wild), Answers.BAD);
        }
        if (told.contains("`BAD`")) {
            C.due("README: with a shaft, " + name, call(Checks.shaftOf(Answers.PAIR), name, wild), Answers.BAD);
        }
        if (!name.equals("status")) {
            C.due("README: status() behind " + name, marked ? 0 : 3, statusBehind(name, parts));
        }
    }

    /** status() was 3; behind a call that is taken it is 0, if the call is one that status() tells of. */
    private static int statusBehind(String name, int parts) throws Exception {
        ShaftDiscs x = Checks.shaftOf(Answers.PAIR);
        x.row(0, 0, 1);
        x.as(0, 5);
        int[] with = new int[parts];
        x.mark(3);
        x.image(0);
        // zeros are taken by all but these
        switch (name) {
            case "who": with[4] = 1; break;
            case "drawn", "change", "swap": with[1] = 1; break;
            case "become": with[1] = 3; break;
            default: break;
        }
        long answer = call(x, name, with);
        // the tape is empty, so that shaft() tells of a fault
        boolean taken = answer >= Answers.NONE || name.equals("shaft");
        C.holds("README: " + name + " is taken, " + answer, taken);
        return x.status();
    }

    private static void testsNamed(String page) throws Exception {
        Path folder = Path.of(System.getProperty("project", "."), "src/test/java");
        try (Stream<Path> files = Files.list(folder)) {
            for (Path file : (Iterable<Path>) files::iterator) {
                String name = file.getFileName().toString().replace(".java", "");
                C.holds("README names " + name, !name.endsWith("Test") || page.contains("`" + name + "`"));
            }
        }
    }
}
