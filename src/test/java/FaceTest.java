import com.sun.management.ThreadMXBean;
import java.lang.management.ManagementFactory;
import java.lang.reflect.Constructor;
import java.lang.reflect.Field;
import java.lang.reflect.Member;
import java.lang.reflect.Method;
import java.lang.reflect.Modifier;
import java.nio.charset.StandardCharsets;
import java.nio.file.Files;
import java.nio.file.Path;
import java.util.ArrayList;
import java.util.Arrays;
import java.util.Comparator;
import java.util.List;
import java.util.Random;
import java.util.Set;
import java.util.TreeSet;
import java.util.regex.Matcher;
import java.util.regex.Pattern;

/** The public face, what LANGUAGE.md forbids as far as a text tells it, and that no call throws. */
public final class FaceTest {
    private static final String FACE =
            "int row(int,int,int);int set(int,int,int);int copy(int,int,int,int,int);int drop(int);"
            + "int feed(int);int shaft();int fault();int undo();int change(int,int,int);"
            + "int become(int,int);int mark(int);int swap(int,int);int disc(int,int);"
            + "long determinant(int,int);int below(int);int box(int);int widest(int);"
            + "int clear(int,int);int stiffer(int,int);int sets(int,int);int share(int,int);"
            + "int byTurns(int);int who(int,int,int,int,int);long broken(int,int,int);"
            + "int drawn(int,int,int);int image(int);int restore(int);int kind(int);"
            + "int as(int,int);int ask(int,int);int trace(int);int count(int);int status()";
    private static final int[] WILD = {Integer.MIN_VALUE, -1000000, -2, -1, 0, 1, 2, 3, 5, 6, 7, 8, 39, 40, 41,
        79, 80, 199, 200, 201, 998, 999, 1000, 999999, Integer.MAX_VALUE - 1, Integer.MAX_VALUE};

    private static final Checks C = new Checks();

    public static void main(String[] args) throws Exception {
        face();
        language();
        shapes();
        room();
        wildCalls();
        C.end("FaceTest");
    }

    private static boolean isPrivate(Member member) {
        return Modifier.isPrivate(member.getModifiers());
    }

    private static void face() {
        Class<?> type = ShaftDiscs.class;
        C.holds("the class is public and final", type.getModifiers() == (Modifier.PUBLIC | Modifier.FINAL));
        Set<String> open = new TreeSet<>();
        Set<String> openNames = new TreeSet<>();
        for (Method method : type.getDeclaredMethods()) {
            if (!isPrivate(method)) {
                String of = Pattern.compile("(public |ShaftDiscs\\.)").matcher(method.toString()).replaceAll("");
                open.add(of);
                openNames.add(method.getName());
            }
        }
        Set<String> want = new TreeSet<>(Set.of(FACE.split(";")));
        C.holds("the methods are those of the face: " + open, open.equals(want));
        for (Method method : type.getDeclaredMethods()) {
            boolean same = isPrivate(method) && openNames.contains(method.getName());
            C.holds("no private method has a public one's name: " + method, !same);
        }
        Constructor<?>[] made = type.getDeclaredConstructors();
        C.holds("one public constructor", made.length == 1 && Modifier.isPublic(made[0].getModifiers()));
        Set<String> constants = new TreeSet<>();
        for (Field field : type.getDeclaredFields()) {
            if (!isPrivate(field)) {
                constants.add(field.toString().replace("ShaftDiscs.", ""));
            }
        }
        String head = "public static final int ";
        C.holds("the constants are those of the face: " + constants,
                constants.equals(Set.of(head + "NONE", head + "BAD", head + "STATE", head + "FULL")));
        for (Class<?> inside : type.getDeclaredClasses()) {
            boolean open2 = Modifier.isPublic(inside.getModifiers()) || Modifier.isProtected(inside.getModifiers());
            C.holds("classes inside are static and not public: " + inside,
                    Modifier.isStatic(inside.getModifiers()) && !open2);
        }
    }

    private static void language() throws Exception {
        Path file = Path.of(System.getProperty("project", "."), "src/main/java/ShaftDiscs.java");
        String text = Files.readString(file, StandardCharsets.US_ASCII);
        String code = text.replaceAll("(?s)/\\*.*?\\*/", "").replaceAll("//[^\n]*", "");
        String words = "package throw throws try catch synchronized assert volatile native Thread Random System.out "
                + "System.nanoTime System.currentTimeMillis Object Class java.io java.nio";
        for (String word : words.split(" ")) {
            boolean has = Pattern.compile("\\b" + Pattern.quote(word) + "\\b").matcher(code).find();
            C.holds("the program has no " + word, !has);
        }
        C.holds("no function that ends in Exact", !Pattern.compile("Exact\\s*\\(").matcher(code).find());
        C.holds("no method reference", !code.contains("::"));
        C.holds("no lambda", !Pattern.compile("->").matcher(code.replaceAll("(case [^\n>]*|default )->", "")).find());
        Matcher imports = Pattern.compile("\\bimport\\s+([\\w.]+)").matcher(code);
        while (imports.find()) {
            String name = imports.group(1);
            C.holds("imports " + name, name.matches("java\\.util\\.(ArrayList|List|Arrays|Iterator)"));
        }
    }

    /** Rules 1, 5 and 11, as the compiled classes tell them. */
    private static void shapes() {
        List<Class<?>> all = new ArrayList<>(List.of(ShaftDiscs.class.getDeclaredClasses()));
        all.add(ShaftDiscs.class);
        C.holds("some twelve classes: " + all.size(), all.size() <= 12);
        for (Class<?> type : all) {
            int fields = 0;
            for (Field field : type.getDeclaredFields()) {
                boolean fixed = Modifier.isStatic(field.getModifiers());
                fields += fixed ? 0 : 1;
                C.holds("static fields are final: " + field, !fixed || Modifier.isFinal(field.getModifiers()));
            }
            C.holds("some twenty fields: " + type, fields <= 20);
            for (Method method : type.getDeclaredMethods()) {
                C.holds("seven parameters at most: " + method, method.getParameterCount() <= 7);
            }
        }
    }

    /** All calls of a run live in one room of 600,000 objects and 7.3 million fields and elements. */
    private static void room() {
        ThreadMXBean threads = (ThreadMXBean) ManagementFactory.getThreadMXBean();
        long before = threads.getCurrentThreadAllocatedBytes();
        ShaftDiscs x = Checks.shaftOf("m5,0;t1,40,9;t1,40,9;t1,40,9;t1,40,9;t1,40,9;t1,40,9;");
        x.row(0, 2, 40);
        for (int call = 0; call < 75; call++) {
            x.row(call % 8, 2, 40);
            x.who(call % 6, 2, 0, 0, 6);
            x.byTurns(3);
            x.broken(3, 3, 0);
            x.drawn(40, 9, 0);
            x.clear(0, 9);
        }
        long made = threads.getCurrentThreadAllocatedBytes() - before;
        C.holds("a run makes no more than fits the room: " + made + " bytes", made < 7300000L * 4);
    }

    private static void wildCalls() throws Exception {
        Random random = new Random(7);
        String[] texts = {"", "m1,5;p2,30,0;g1,20,7;w1,10,3;t2,8,5;s1,7,2;p1,9,9;", "m0,0;p1,0,0;p1,0,0;",
            "m20,0;g5,40,9;g5,40,9;g5,40,9;g5,40,9;g5,40,9;g5,40,9;"};
        Method[] methods = ShaftDiscs.class.getDeclaredMethods();
        // the order in which the machine names them is free
        Arrays.sort(methods, Comparator.comparing(Method::toString));
        for (int run = 0; run < 400; run++) {
            ShaftDiscs x = new ShaftDiscs();
            Checks.read(x, texts[run % texts.length]);
            for (int call = 0; call < 450; call++) {
                Method method = methods[random.nextInt(methods.length)];
                if (isPrivate(method)) {
                    continue;
                }
                Object[] with = new Object[method.getParameterCount()];
                for (int i = 0; i < with.length; i++) {
                    with[i] = WILD[random.nextInt(WILD.length)];
                }
                C.holds("answers " + method, quietly(x, method, with));
            }
        }
    }

    private static boolean quietly(ShaftDiscs x, Method method, Object[] with) throws Exception {
        try {
            method.invoke(x, with);
            return true;
        } catch (java.lang.reflect.InvocationTargetException thrown) {
            System.out.println(method + " threw " + thrown.getCause());
            return false;
        }
    }
}
