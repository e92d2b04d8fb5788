import java.io.IOException;
import java.lang.management.ManagementFactory;
import java.lang.reflect.Field;
import java.lang.reflect.Method;
import java.lang.reflect.Modifier;
import java.nio.file.Files;
import java.nio.file.Path;
import java.util.Arrays;
import java.util.HashSet;
import java.util.List;
import java.util.Set;
import java.util.TreeSet;

/** The document's face, what of LANGUAGE.md can be seen from outside, and the room that calls take. */
public final class FaceTest {
    private static final List<String> FACE = List.of("feed/5", "end/1", "town/0", "rule/0", "force/1", "house/2", "pourOf/2",
            "day/0", "crack/2", "pour/3", "rock/2", "ice/1", "undo/0", "ahead/3", "down/1", "part/3", "blocks/1", "stay/2",
            "iced/1", "stood/4", "row/2", "order/1", "rests/4", "parts/2", "note/3", "ruled/1", "look/2", "seed/1",
            "summers/4", "count/1", "image/1", "back/1");

    public static void main(String[] args) throws IOException {
        face();
        insideClasses();
        source();
        room();
        Due.end();
    }

    private static void face() {
        Set<String> found = new TreeSet<>();
        for (Method m : ToffeeTown.class.getDeclaredMethods()) {
            if (Modifier.isPrivate(m.getModifiers())) {
                continue;
            }
            boolean plain = m.getModifiers() == Modifier.PUBLIC && m.getReturnType() == int.class
                    && Arrays.stream(m.getParameterTypes()).allMatch(t -> t == int.class);
            found.add(m.getName() + "/" + m.getParameterCount() + (plain ? "" : " not plain"));
        }
        Due.due("the methods " + found, found.equals(new TreeSet<>(FACE)) ? 1 : 0, 1);
        for (Field f : ToffeeTown.class.getDeclaredFields()) {
            Due.due("private: " + f.getName(), Modifier.isPrivate(f.getModifiers()) || f.getName().equals("NONE") ? 1 : 0, 1);
        }
        Due.due("public and final", ToffeeTown.class.getModifiers(), Modifier.PUBLIC | Modifier.FINAL);
        Due.due("one constructor", ToffeeTown.class.getDeclaredConstructors().length, 1);
        Due.due("public", ToffeeTown.class.getDeclaredConstructors()[0].getModifiers(), Modifier.PUBLIC);
    }

    private static void insideClasses() {
        Set<String> names = new HashSet<>();
        FACE.forEach(f -> names.add(f.substring(0, f.indexOf('/'))));
        Class<?>[] inside = ToffeeTown.class.getDeclaredClasses();
        Due.due("twelve classes at most", inside.length < 12 ? 1 : 0, 1);
        for (Class<?> c : inside) {
            Due.due("static: " + c, Modifier.isStatic(c.getModifiers()) ? 1 : 0, 1);
            for (Method m : c.getDeclaredMethods()) {
                Due.due("the face's names are its own: " + m, names.contains(m.getName()) ? 1 : 0, 0);
            }
        }
        for (Method m : ToffeeTown.class.getDeclaredMethods()) {
            Due.due("the face's names are its own: " + m,
                    Modifier.isPrivate(m.getModifiers()) && names.contains(m.getName()) ? 1 : 0, 0);
        }
    }

    private static void source() throws IOException {
        Path path = Path.of(System.getProperty("toffee.source", "src/main/java/ToffeeTown.java"));
        String text = Files.readString(path);
        for (String word : List.of("throw", "throws", "try", "catch", "finally", "synchronized", "assert", "var", "instanceof",
                "Exact", "MAX_VALUE", "MIN_VALUE", "System.out", "toString", "hashCode", "Object", "Override")) {
            Due.due("without " + word, text.matches("(?s).*\\b" + word.replace(".", "\\.") + "\\b.*") ? 1 : 0, 0);
        }
        Due.due("without arrows", text.contains("->") || text.contains("::") ? 1 : 0, 0);
        Due.due("no package", text.startsWith("import java.util.Arrays;\n") && text.indexOf("import", 6) < 0 ? 1 : 0, 1);
        int lines = 0;
        for (String line : text.split("\n")) {
            lines = line.isEmpty() ? 0 : lines + 1;
            Due.due("printable: " + line, line.chars().allMatch(c -> c >= 32 && c < 127) ? 1 : 0, 1);
            Due.due("short methods: " + line, lines <= 60 || !line.startsWith("        ") ? 1 : 0, 1);
        }
    }

    /** What a call makes, it makes once: rows are used again. */
    private static void room() {
        com.sun.management.ThreadMXBean bean = (com.sun.management.ThreadMXBean) ManagementFactory.getThreadMXBean();
        busy(new ToffeeTown(), 3);
        long start = bean.getCurrentThreadAllocatedBytes();
        ToffeeTown x = new ToffeeTown();
        long made = bean.getCurrentThreadAllocatedBytes();
        busy(x, 10);
        long used = bean.getCurrentThreadAllocatedBytes();
        System.out.println("an object takes " + (made - start) + " bytes, its calls " + (used - made));
        Due.due("a lean object", made - start < 40000 ? 1 : 0, 1);
        Due.due("lean calls", used - made < 100000 ? 1 : 0, 1);
    }

    private static final String TOWN = "town 60 99 5;heat 1;heat 4;house 0;house 9;house 19;house 29;house 39;house 49;"
            + "join 0 1 1;join 0 2 1;join 0 3 1;join 0 4 1;join 0 5 1;join 1 2 1;join 1 3 1;join 1 4 1;join 1 5 1;join 2 3 1;"
            + "join 2 4 1;join 2 5 1;join 3 4 1;join 3 5 1;join 4 5 1";

    private static void busy(ToffeeTown x, int times) {
        for (int k = 0; k < 6; k++) {
            Due.rule(x, "pour " + "hard*place+".repeat(29) + k);
        }
        x.force(5);
        for (int k = 0; k < times; k++) {
            Due.town(x, TOWN);
            for (int day = 0; day < 25; day++) {
                x.day();
            }
            x.image(k % 4);
            x.undo();
            x.back(k % 4);
            x.row(3, 0);
            x.stood(5, 60, 30, 0);
            x.rests(0, 5, 20, 0);
            x.stay(0, 60);
            x.iced(60);
            x.ruled(0);
            x.look(60, 0);
            x.summers(10, 60, 50, 0);
            x.order(0);
            x.part(0, 5, 0);
        }
    }
}
