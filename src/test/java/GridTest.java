import java.lang.reflect.Method;
import java.lang.reflect.Modifier;
import java.util.ArrayList;
import java.util.Arrays;
import java.util.List;
import java.util.TreeSet;

/** Every call with every argument at, below and above its edges, in states at their edges, answered as by the Model. */
public final class GridTest {
    private static final int MIN = Integer.MIN_VALUE;
    private static final int MAX = Integer.MAX_VALUE;
    private static final String MANY = "town 30 60 5;heat 3;heat 5;heat 0;house 0;house 2;house 9;house 20;house 29;house 9;"
            + "join 0 1 2;join 1 2 4;join 4 3 8;join 2 5 9;rock 2 4;rock 4 9";
    private static final String DOWN = "town 5 9 0;heat 9;house 0;house 4;house 2;join 0 1 9";

    private ToffeeTown x;
    private Model model;
    private final String state;

    private GridTest(String state) {
        this.state = state;
    }

    public static void main(String[] args) {
        String[] states = {"", "town town 5 0 0", "town town 60 99 9;house 0", "town " + MANY,
            "rule pour 1+hard|force 0|town " + MANY + "|day|ice 9|day|seed 77|note 1 0 3",
            "rule pour 1+hard|force 0|town " + MANY + "|" + "day|".repeat(25) + "image 1|ice 2",
            "town " + DOWN + "|day|image 0", "town " + DOWN + "|" + "note 0 0 0|".repeat(10) + "ice 1",
            "rule pour 1|".repeat(6) + "force 5|town " + MANY + "|text pour 1|image 3|day|day"};
        for (String state : states) {
            GridTest test = new GridTest(state);
            test.make();
            test.grid();
        }
        beyond();
        Due.end();
    }

    private void make() {
        x = new ToffeeTown();
        model = new Model();
        for (String step : state.isEmpty() ? new String[0] : state.split("\\|")) {
            String name = step.split(" ")[0];
            String rest = step.substring(Math.min(step.length(), name.length() + 1));
            if (name.equals("town") || name.equals("rule") || name.equals("text")) {
                tell(rest);
                if (!name.equals("text")) {
                    same(name);
                }
            } else {
                String[] words = rest.isEmpty() ? new String[0] : rest.split(" ");
                int[] args = new int[words.length];
                for (int k = 0; k < args.length; k++) {
                    args[k] = Integer.parseInt(words[k]);
                }
                same(name, args);
            }
        }
    }

    private void tell(String text) {
        String padded = text + "\0".repeat(20);
        for (int at = 0; at < text.length(); at += 20) {
            int[] n = new int[5];
            for (int k = 0; k < 20; k++) {
                n[k / 4] = n[k / 4] << 8 | padded.charAt(at + k) & 255;
            }
            Due.due("feed", x.feed(n[0], n[1], n[2], n[3], n[4]), model.feed(n));
        }
        same("end", text.length());
    }

    private void same(String name, int... args) {
        Due.due(state + ": " + Due.told(name, args), Due.call(x, name, args), model(name, args));
    }

    private int model(String name, int... a) {
        return switch (name) {
            case "end" -> model.end(a[0]);
            case "town" -> model.town();
            case "rule" -> model.rule();
            case "force" -> model.force(a[0]);
            case "house" -> model.house(a[0], a[1]);
            case "pourOf" -> model.pourOf(a[0], a[1]);
            case "day" -> model.day();
            case "crack" -> model.crack(a[0], a[1]);
            case "pour" -> model.pour(a[0], a[1], a[2]);
            case "rock" -> model.rock(a[0], a[1]);
            case "ice" -> model.ice(a[0]);
            case "undo" -> model.undo();
            case "ahead" -> model.ahead(a[0], a[1], a[2]);
            case "down" -> model.down(a[0]);
            case "part" -> model.part(a[0], a[1], a[2]);
            case "blocks" -> model.blocks(a[0]);
            case "stay" -> model.stay(a[0], a[1]);
            case "iced" -> model.iced(a[0]);
            case "stood" -> model.stood(a[0], a[1], a[2], a[3]);
            case "row" -> model.row(a[0], a[1]);
            case "order" -> model.order(a[0]);
            case "rests" -> model.rests(a[0], a[1], a[2], a[3]);
            case "parts" -> model.parts(a[0], a[1]);
            case "note" -> model.note(a[0], a[1], a[2]);
            case "ruled" -> model.ruled(a[0]);
            case "look" -> model.look(a[0], a[1]);
            case "seed" -> model.seed(a[0]);
            case "summers" -> model.summers(a[0], a[1], a[2], a[3]);
            case "count" -> model.count(a[0]);
            case "image" -> model.image(a[0]);
            case "back" -> model.back(a[0]);
            default -> throw new IllegalArgumentException(name);
        };
    }

    /** Each value that is an edge, and what stands beside it. */
    private static int[] around(int... edges) {
        TreeSet<Integer> found = new TreeSet<>(List.of(MIN, -1, 0, MAX));
        for (int edge : edges) {
            found.addAll(List.of(edge - 1, edge, edge + 1));
        }
        return found.stream().mapToInt(Integer::intValue).toArray();
    }

    private void grid() {
        int houses = x.count(3);
        int hill = x.count(0);
        int[] house = houses == 0 ? around() : around(0, houses - 1, 5);
        int[] place = {MIN, -1, 0, 3, hill - 1, hill, hill + 1, MAX};
        asked("house", house, around(0, 4));
        asked("pourOf", house, house);
        asked("ahead", house, around(0, 100), around(0, 2));
        asked("down", house);
        asked("part", house, house, around(0, 1));
        asked("blocks", around(0, 1));
        asked("stay", house, around(1, 60));
        asked("iced", around(1, 60));
        asked("stood", house, place, new int[] {MIN, 0, 1, 30, 31, MAX}, around(0, 1));
        asked("row", around(1, 3), around(0, 3));
        asked("order", house);
        asked("rests", house, house, new int[] {MIN, 0, 1, 20, 21, MAX}, new int[] {MIN, -1, 0, 1, 2, 3, MAX});
        asked("parts", around(0, 1, 9999), house);
        asked("ruled", around(0, 1));
        asked("look", around(0, 60), around(0, 1));
        asked("summers", new int[] {MIN, 0, 1, 10, 11, MAX}, new int[] {MIN, 0, 1, 60, 61, MAX},
                new int[] {MIN, -1, 0, 1, 99, 100, 101, MAX}, new int[] {MIN, -1, 0, 1, 2, MAX});
        asked("count", around(0, 15));
        changed("end", around(0, x.count(15)));
        changed("force", around(0, x.count(4), 5));
        changed("town");
        changed("rule");
        changed("day");
        changed("crack", house, house);
        changed("pour", house, house, around(1, 9));
        changed("rock", house, around(1, 9));
        changed("ice", around(1, 9));
        changed("undo");
        changed("note", around(0, 60), house, place);
        changed("seed", around(0, 1));
        changed("image", around(0, 3));
        changed("back", around(0, 3));
    }

    private static List<int[]> all(int[]... values) {
        List<int[]> found = new ArrayList<>();
        found.add(new int[0]);
        for (int[] each : values) {
            List<int[]> longer = new ArrayList<>();
            for (int[] args : found) {
                for (int value : each) {
                    int[] more = Arrays.copyOf(args, args.length + 1);
                    more[args.length] = value;
                    longer.add(more);
                }
            }
            found = longer;
        }
        return found;
    }

    private void asked(String name, int[]... values) {
        for (int[] args : all(values)) {
            same(name, args);
        }
    }

    private void changed(String name, int[]... values) {
        for (int[] args : all(values)) {
            same(name, args);
            for (int what = 0; what <= 15; what++) {
                same("count", what);
            }
            make();
        }
    }

    /** Beyond 512 calls answers are free, but none throws, and each ends. */
    private static void beyond() {
        ToffeeTown x = Due.made(MANY, "pour 1+hard");
        int[] values = {MIN, -2, -1, 0, 1, 2, 3, 5, 6, 9, 20, 60, 100, MAX};
        int calls = 0;
        for (int round = 0; round < 60; round++) {
            for (Method m : ToffeeTown.class.getDeclaredMethods()) {
                if (Modifier.isPublic(m.getModifiers())) {
                    int[] args = new int[m.getParameterCount()];
                    for (int k = 0; k < args.length; k++) {
                        args[k] = values[(round * (k + 3) + 5 * k + m.getName().length()) % values.length];
                    }
                    Due.call(x, m.getName(), args);
                    calls++;
                }
            }
        }
        Due.due("calls that ended", calls, 60 * 32);
    }
}
