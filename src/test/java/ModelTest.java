import java.util.Random;

/** Every promise: runs of calls drawn by a fixed seed, answered by the class as by the Model. */
public final class ModelTest {
    private static final String[] WORDS = {"one", "other", "hard", "place", "placeo", "apart", "rock", "rocko", "heat",
        "next", "sugar", "day"};
    private static final String[] SIGNS = {"<", "<=", "=", ">=", ">"};
    private final Random random;
    private ToffeeTown x = new ToffeeTown();
    private Model model = new Model();
    private final StringBuilder told = new StringBuilder();

    private ModelTest(long seed) {
        random = new Random(seed);
    }

    public static void main(String[] args) {
        int runs = args.length > 0 ? Integer.parseInt(args[0]) : 300;
        long first = args.length > 1 ? Long.parseLong(args[1]) : 1;
        for (int run = 0; run < runs; run++) {
            new ModelTest(first + run).run();
        }
        Due.end();
    }

    private int to(int most) {
        return random.nextInt(most + 1);
    }

    private boolean chance(int percent) {
        return random.nextInt(100) < percent;
    }

    private void run() {
        if (chance(80)) {
            tellTown();
        }
        for (int rules = to(4); rules > 0; rules--) {
            tellRule();
        }
        force();
        int calls = 60 + to(140);
        for (int k = 0; k < calls; k++) {
            call();
        }
    }

    private void same(String call, int got, int want) {
        told.append(call).append('\n');
        if (got != want) {
            System.out.println(told);
        }
        Due.due(call, got, want);
        if (got != want) {
            Due.end();
        }
    }

    private void feed(String text) {
        told.append("text ").append(text).append('\n');
        x.end(0);
        model.end(0);
        String padded = text + "\0".repeat(20);
        for (int at = 0; at < text.length(); at += 20) {
            int[] n = new int[5];
            for (int k = 0; k < 20; k++) {
                n[k / 4] = n[k / 4] << 8 | padded.charAt(at + k) & 255;
            }
            same("feed", x.feed(n[0], n[1], n[2], n[3], n[4]), model.feed(n));
        }
        same("end(" + text.length() + ")", x.end(text.length()), model.end(text.length()));
    }

    private String spoiled(String text) {
        StringBuilder s = new StringBuilder(text);
        String put = " ;[]0123456789abnotrdifpueshk<>=+-*/%!A\u00e9";
        for (int times = 1 + to(1); times > 0 && s.length() > 0; times--) {
            int at = to(s.length() - 1);
            char c = put.charAt(to(put.length() - 1));
            switch (to(3)) {
                case 0 -> s.deleteCharAt(at);
                case 1 -> s.insert(at, c);
                case 2 -> s.setCharAt(at, c);
                default -> s.setLength(at);
            }
        }
        return s.substring(0, Math.min(400, s.length()));
    }

    private void tellTown() {
        int hill = chance(50) ? 5 + to(15) : 5 + to(55);
        StringBuilder s = new StringBuilder("town " + hill + " " + (chance(30) ? to(3) : to(99)) + " " + to(9));
        int heats = chance(10) ? 0 : 1 + to(chance(20) ? 12 : 3);
        int top = chance(30) ? 9 : 1 + to(5);
        int houses = chance(5) ? 0 : to(chance(5) ? 7 : 6);
        for (int k = 0; k < heats; k++) {
            s.append(";heat ").append(to(top));
        }
        for (int k = 0; k < houses; k++) {
            s.append(";house ").append(to(chance(50) ? hill - 1 : hill / 2));
        }
        int joins = houses < 2 ? 0 : to(houses * 2);
        for (int k = 0; k < joins; k++) {
            int one = to(houses - 1);
            int other = (one + 1 + to(houses - 2)) % houses;
            s.append(";join ").append(one).append(' ').append(other).append(' ').append(1 + to(8));
        }
        for (int k = houses == 0 ? 0 : to(3); k > 0; k--) {
            s.append(";rock ").append(to(houses - 1)).append(' ').append(1 + to(8));
        }
        String text = s.substring(0, Math.min(400, s.length()));
        feed(chance(15) ? spoiled(text) : text);
        same("town()", x.town(), model.town());
    }

    private String value() {
        return chance(35) ? String.valueOf(chance(80) ? to(12) : to(99999)) : WORDS[to(11)];
    }

    private String sum() {
        StringBuilder s = new StringBuilder(value());
        while (chance(40)) {
            s.append(chance(20) ? " " : "").append("+-*/%".charAt(to(4))).append(value());
        }
        return s.toString();
    }

    private String test(int depth) {
        StringBuilder s = new StringBuilder(fact(depth));
        while (chance(30)) {
            s.append(chance(50) ? " and " : " or ").append(fact(depth));
        }
        return s.toString();
    }

    private String fact(int depth) {
        if (depth < 14 && chance(20)) {
            return "not " + fact(depth + 1);
        }
        if (depth < 14 && chance(20)) {
            return "[" + test(depth + 1) + "]";
        }
        return sum() + SIGNS[to(4)] + sum();
    }

    private void tellRule() {
        StringBuilder s = new StringBuilder();
        int clauses = 1 + to(chance(10) ? 13 : 3);
        for (int k = 0; k < clauses; k++) {
            s.append(k > 0 ? ";" : "").append("pour ").append(sum());
            if (chance(70)) {
                s.append(" if ").append(test(0));
            }
        }
        String text = s.substring(0, Math.min(400, s.length()));
        feed(chance(15) ? spoiled(text) : text);
        same("rule()", x.rule(), model.rule());
    }

    private void force() {
        int rule = chance(10) ? to(9) - 2 : to(Math.max(0, x.count(4))) - 1 + (chance(50) ? 1 : 0);
        same("force(" + rule + ")", x.force(rule), model.force(rule));
    }

    private int house() {
        return chance(4) ? to(9) - 2 : to(Math.max(0, x.count(3) - 1));
    }

    private int what(int most) {
        return chance(3) ? to(most + 4) - 2 : to(most);
    }

    private int days(int most) {
        return chance(4) ? (chance(50) ? most + 1 : -1) : chance(60) ? to(Math.min(most, 8)) : to(most);
    }

    private void call() {
        int k = random.nextInt(100);
        if (k < 25) {
            same("day()", x.day(), model.day());
        } else if (k < 45) {
            act();
        } else if (k < 72) {
            ask();
        } else if (k < 90) {
            search();
        } else if (k < 92) {
            tellRule();
        } else if (k < 93) {
            tellTown();
        } else if (k < 95) {
            force();
        } else {
            image();
        }
        lookAround();
    }

    private void lookAround() {
        for (int what = -1; what <= 16; what++) {
            same("count(" + what + ")", x.count(what), model.count(what));
        }
        int h = house();
        int o = house();
        int w = what(4);
        same("house(" + h + ", " + w + ")", x.house(h, w), model.house(h, w));
        same("pourOf(" + h + ", " + o + ")", x.pourOf(h, o), model.pourOf(h, o));
    }

    private void act() {
        int h = house();
        int o = house();
        int n = chance(5) ? to(14) - 2 : 1 + to(8);
        switch (to(6)) {
            case 0 -> same("crack(" + h + ", " + o + ")", x.crack(h, o), model.crack(h, o));
            case 1, 2 -> same("pour(" + h + ", " + o + ", " + n + ")", x.pour(h, o, n), model.pour(h, o, n));
            case 3, 4 -> same("rock(" + h + ", " + n + ")", x.rock(h, n), model.rock(h, n));
            case 5 -> same("ice(" + n + ")", x.ice(n), model.ice(n));
            default -> same("undo()", x.undo(), model.undo());
        }
    }

    private void ask() {
        int h = house();
        int o = house();
        int n = days(100);
        int w = what(2);
        int b = what(1);
        int t = chance(5) ? to(20000) - 5000 : to(9999);
        switch (to(8)) {
            case 0, 1 -> same("ahead(" + h + ", " + n + ", " + w + ")", x.ahead(h, n, w), model.ahead(h, n, w));
            case 2 -> same("down(" + h + ")", x.down(h), model.down(h));
            case 3 -> same("part(" + h + ", " + o + ", " + b + ")", x.part(h, o, b), model.part(h, o, b));
            case 4 -> same("blocks(" + b + ")", x.blocks(b), model.blocks(b));
            case 5 -> same("order(" + h + ")", x.order(h), model.order(h));
            case 6 -> same("parts(" + t + ", " + h + ")", x.parts(t, h), model.parts(t, h));
            case 7 -> same("blocks(" + b + ")", x.blocks(b), model.blocks(b));
            default -> same("parts(" + w + ", " + h + ")", x.parts(w, h), model.parts(w, h));
        }
    }

    private void search() {
        int h = house();
        int o = house();
        int b = what(1);
        int w = what(2);
        int p = chance(5) ? to(70) - 5 : chance(60) ? x.ahead(h, to(4), 0) : to(Math.max(1, x.count(0)));
        switch (to(9)) {
            case 0 -> {
                int n = days(60);
                same("stay(" + h + ", " + n + ")", x.stay(h, n), model.stay(h, n));
            }
            case 1 -> {
                int n = days(60);
                same("iced(" + n + ")", x.iced(n), model.iced(n));
            }
            case 2 -> {
                int n = days(30);
                same("stood(" + h + ", " + p + ", " + n + ", " + b + ")", x.stood(h, p, n, b), model.stood(h, p, n, b));
            }
            case 3 -> {
                int n = chance(4) ? to(6) - 1 : 1 + to(1 + to(1));
                for (int each = 0; each < 4; each++) {
                    same("row(" + n + ", " + each + ")", x.row(n, each), model.row(n, each));
                }
                same("row(" + n + ", " + (w + 3) + ")", x.row(n, w + 3), model.row(n, w + 3));
            }
            case 4 -> {
                int n = days(20);
                same("rests(" + h + ", " + o + ", " + n + ", " + w + ")", x.rests(h, o, n, w), model.rests(h, o, n, w));
            }
            case 5, 6 -> note();
            case 7 -> {
                int n = days(60);
                same("ruled(" + b + ")", x.ruled(b), model.ruled(b));
                same("look(" + n + ", " + b + ")", x.look(n, b), model.look(n, b));
            }
            case 8 -> {
                int seed = chance(10) ? -to(5) : random.nextInt() & 0x7fffffff;
                same("seed(" + seed + ")", x.seed(seed), model.seed(seed));
            }
            default -> {
                int m = chance(5) ? to(13) - 1 : 1 + to(9);
                int n = days(60);
                int q = chance(5) ? to(120) - 10 : to(100);
                same("summers(" + m + ", " + n + ", " + q + ", " + b + ")", x.summers(m, n, q, b), model.summers(m, n, q, b));
            }
        }
    }

    /** Most NOTES are what some RULE would bring about, so that some RULES stay. */
    private void note() {
        int n = chance(8) ? -1 : days(60);
        int h = house();
        int p = to(Math.max(0, x.count(0)));
        if (n >= 0 && x.count(6) == 0) {
            p = Math.max(0, x.ahead(h, n, 0));
        }
        same("note(" + n + ", " + h + ", " + p + ")", x.note(n, h, p), model.note(n, h, p));
        same("ruled(0)", x.ruled(0), model.ruled(0));
        same("ruled(1)", x.ruled(1), model.ruled(1));
        int d = days(60);
        same("look(" + d + ", 0)", x.look(d, 0), model.look(d, 0));
        same("look(" + d + ", 1)", x.look(d, 1), model.look(d, 1));
    }

    private void image() {
        int k = chance(5) ? to(7) - 2 : to(3);
        if (chance(60)) {
            same("image(" + k + ")", x.image(k), model.image(k));
        } else {
            same("back(" + k + ")", x.back(k), model.back(k));
        }
    }
}
