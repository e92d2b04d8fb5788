import java.math.BigInteger;
import java.util.ArrayDeque;
import java.util.ArrayList;
import java.util.Deque;
import java.util.HashMap;
import java.util.HashSet;
import java.util.LinkedHashMap;
import java.util.List;
import java.util.Map;
import java.util.Set;
import java.util.TreeMap;
import java.util.TreeSet;

/** The document told a second time, as plainly as the Java library allows, to compare with. */
final class Model {
    static final class Fault extends RuntimeException {
        private static final long serialVersionUID = 1L;
        final int number;

        Fault(int place, int kind) {
            super("fault");
            number = 1 + 8 * place + kind;
        }
    }

    /** Whatever a RULE's text has: a sign, and what it joins. */
    record Node(String sign, List<Node> parts) {
    }

    record Clause(Node sum, Node test) {
    }

    record Two(int one, int other) {
        static Two of(int a, int b) {
            return new Two(Math.min(a, b), Math.max(a, b));
        }
    }

    static final class Told {
        int hill;
        int sugar;
        int stick;
        final List<Integer> heats = new ArrayList<>();
        final List<Integer> houses = new ArrayList<>();
        final Map<Two, Integer> joins = new HashMap<>();
        final Map<Integer, Integer> rocks = new HashMap<>();
    }

    static final class State {
        int day;
        int sugar;
        int ice;
        List<Integer> place = new ArrayList<>();
        Map<Integer, Integer> rock = new HashMap<>();
        Map<Two, Integer> hard = new HashMap<>();

        State twin() {
            State s = new State();
            s.day = day;
            s.sugar = sugar;
            s.ice = ice;
            s.place = new ArrayList<>(place);
            s.rock = new HashMap<>(rock);
            s.hard = new HashMap<>(hard);
            return s;
        }
    }

    record Note(int day, int house, int place) {
    }

    static final class All {
        Told told;
        State now = new State();
        Deque<State> past = new ArrayDeque<>();
        List<Note> notes = new ArrayList<>();
        int force = -1;
        int x;

        All twin() {
            All a = new All();
            a.told = told;
            a.now = now.twin();
            for (State s : past) {
                a.past.addLast(s.twin());
            }
            a.notes = new ArrayList<>(notes);
            a.force = force;
            a.x = x;
            return a;
        }
    }

    private final StringBuilder tape = new StringBuilder();
    private final List<List<Clause>> rules = new ArrayList<>();
    private All all = new All();
    private final Map<Integer, All> images = new HashMap<>();

    // ---- the texts

    private static final class Cursor {
        final String text;
        int at;
        int parts;

        Cursor(String text) {
            this.text = text;
        }

        void blanks() {
            while (at < text.length() && text.charAt(at) == 32) {
                at++;
            }
        }

        char peek() {
            blanks();
            return at < text.length() ? text.charAt(at) : '\uffff';
        }

        String peekWord() {
            blanks();
            int end = at;
            while (end < text.length() && text.charAt(end) >= 'a' && text.charAt(end) <= 'z') {
                end++;
            }
            return text.substring(at, end);
        }

        String peekDigits() {
            blanks();
            int end = at;
            while (end < text.length() && text.charAt(end) >= '0' && text.charAt(end) <= '9') {
                end++;
            }
            return text.substring(at, end);
        }

        Fault fault(int kind) {
            blanks();
            return new Fault(at, kind);
        }

        int number(int least, int most, int unlike) {
            String digits = peekDigits();
            if (digits.isEmpty()) {
                throw fault(0);
            }
            BigInteger n = new BigInteger(digits);
            if (digits.length() > 5 || n.intValue() < least || n.intValue() > most || n.intValue() == unlike) {
                throw fault(1);
            }
            at += digits.length();
            return n.intValue();
        }
    }

    private static Told readTown(String text) {
        Cursor c = new Cursor(text);
        Told t = new Told();
        for (int n = 1;; n++) {
            String word = c.peekWord();
            if (!Set.of("town", "heat", "house", "join", "rock").contains(word)) {
                throw c.fault(0);
            }
            if (n == 41 || word.equals("town") && n > 1 || !word.equals("town") && n == 1
                    || word.equals("heat") && t.heats.size() == 12 || word.equals("house") && t.houses.size() == 6) {
                throw c.fault(4);
            }
            c.at += word.length();
            int last = t.houses.size() - 1;
            if (word.equals("town")) {
                t.hill = c.number(5, 60, -1);
                t.sugar = c.number(0, 99, -1);
                t.stick = c.number(0, 9, -1);
            } else if (word.equals("heat")) {
                t.heats.add(c.number(0, 9, -1));
            } else if (word.equals("house")) {
                t.houses.add(c.number(0, t.hill - 1, -1));
            } else if (word.equals("join")) {
                int one = c.number(0, last, -1);
                int other = c.number(0, last, one);
                t.joins.put(Two.of(one, other), c.number(1, 9, -1));
            } else {
                int house = c.number(0, last, -1);
                t.rocks.put(house, c.number(1, 9, -1));
            }
            if (c.peek() == '\uffff' && c.at == text.length()) {
                return t;
            }
            if (c.peek() != ';') {
                throw c.fault(0);
            }
            c.at++;
        }
    }

    private static List<Clause> readRule(String text) {
        Cursor c = new Cursor(text);
        List<Clause> clauses = new ArrayList<>();
        while (true) {
            if (!c.peekWord().equals("pour")) {
                throw c.fault(0);
            }
            if (clauses.size() == 12) {
                throw c.fault(4);
            }
            c.at += 4;
            Node sum = sum(c);
            Node test = null;
            if (c.peekWord().equals("if")) {
                c.at += 2;
                test = test(c, 0);
            }
            clauses.add(new Clause(sum, test));
            c.blanks();
            if (c.at == text.length()) {
                return clauses;
            }
            if (c.peek() != ';') {
                throw c.fault(0);
            }
            c.at++;
        }
    }

    private static Node test(Cursor c, int deep) {
        Node left = part(c, deep);
        while (c.peekWord().equals("or")) {
            c.at += 2;
            left = new Node("or", List.of(left, part(c, deep)));
        }
        return left;
    }

    private static Node part(Cursor c, int deep) {
        Node left = fact(c, deep);
        while (c.peekWord().equals("and")) {
            c.at += 3;
            left = new Node("and", List.of(left, fact(c, deep)));
        }
        return left;
    }

    private static Node fact(Cursor c, int deep) {
        boolean not = c.peekWord().equals("not");
        if (not || c.peek() == '[') {
            if (deep == 10) {
                throw c.fault(2);
            }
            c.at += not ? 3 : 1;
            if (not) {
                return new Node("not", List.of(fact(c, deep + 1)));
            }
            Node inner = test(c, deep + 1);
            if (c.peek() != ']') {
                throw c.fault(0);
            }
            c.at++;
            return inner;
        }
        Node left = sum(c);
        c.blanks();
        for (String sign : List.of("<=", ">=", "<", ">", "=")) {
            if (c.text.startsWith(sign, c.at)) {
                if (++c.parts > 60) {
                    throw c.fault(3);
                }
                c.at += sign.length();
                return new Node(sign, List.of(left, sum(c)));
            }
        }
        throw c.fault(0);
    }

    private static Node sum(Cursor c) {
        Node left = term(c);
        while (c.peek() == '+' || c.peek() == '-') {
            String sign = String.valueOf(c.peek());
            c.at++;
            left = new Node(sign, List.of(left, term(c)));
        }
        return left;
    }

    private static Node term(Cursor c) {
        Node left = value(c);
        while (c.peek() == '*' || c.peek() == '/' || c.peek() == '%') {
            String sign = String.valueOf(c.peek());
            c.at++;
            left = new Node(sign, List.of(left, value(c)));
        }
        return left;
    }

    private static Node value(Cursor c) {
        String token = c.peekDigits();
        if (token.isEmpty()) {
            token = c.peekWord();
            if (!Set.of("one", "other", "hard", "place", "placeo", "apart", "rock", "rocko", "heat", "next", "sugar",
                    "day").contains(token)) {
                throw c.fault(0);
            }
        } else if (token.length() > 5) {
            throw c.fault(1);
        }
        if (++c.parts > 60) {
            throw c.fault(3);
        }
        c.at += token.length();
        return new Node(token, List.of());
    }

    private static final BigInteger TWO64 = BigInteger.ONE.shiftLeft(64);

    private static BigInteger round(BigInteger n) {
        BigInteger r = n.mod(TWO64);
        return r.testBit(63) ? r.subtract(TWO64) : r;
    }

    private static BigInteger worth(Node n, Map<String, Integer> words) {
        if (n.parts.isEmpty()) {
            return words.containsKey(n.sign) ? BigInteger.valueOf(words.get(n.sign)) : new BigInteger(n.sign);
        }
        BigInteger a = worth(n.parts.get(0), words);
        BigInteger b = worth(n.parts.get(1), words);
        boolean zero = b.signum() == 0;
        return round(switch (n.sign) {
            case "+" -> a.add(b);
            case "-" -> a.subtract(b);
            case "*" -> a.multiply(b);
            case "/" -> zero ? b : a.divide(b);
            default -> zero ? b : a.remainder(b);
        });
    }

    private static boolean holds(Node n, Map<String, Integer> words) {
        switch (n.sign) {
            case "not":
                return !holds(n.parts.get(0), words);
            case "and":
                return holds(n.parts.get(0), words) && holds(n.parts.get(1), words);
            case "or":
                return holds(n.parts.get(0), words) || holds(n.parts.get(1), words);
            default:
                int order = worth(n.parts.get(0), words).compareTo(worth(n.parts.get(1), words));
                return switch (n.sign) {
                    case "<" -> order < 0;
                    case "<=" -> order <= 0;
                    case "=" -> order == 0;
                    case ">=" -> order >= 0;
                    default -> order > 0;
                };
        }
    }

    // ---- the days

    private int told(int day) {
        return all.told == null || all.told.heats.isEmpty() ? 0 : all.told.heats.get(day % all.told.heats.size());
    }

    private int heat(State s) {
        return s.ice > 0 ? Math.max(0, told(s.day) - 3) : told(s.day);
    }

    private boolean river(State s, int house) {
        return s.place.get(house) == all.told.hill;
    }

    private Set<Integer> block(State s, int house, int heat) {
        TreeSet<Integer> found = new TreeSet<>();
        Deque<Integer> open = new ArrayDeque<>(List.of(house));
        while (!open.isEmpty()) {
            int h = open.pop();
            if (found.add(h)) {
                for (Map.Entry<Two, Integer> e : s.hard.entrySet()) {
                    if (e.getValue() > heat && (e.getKey().one == h || e.getKey().other == h)) {
                        open.push(e.getKey().one + e.getKey().other - h);
                    }
                }
            }
        }
        return found;
    }

    private static boolean fast(State s, Set<Integer> block, int heat) {
        return block.stream().anyMatch(h -> s.rock.getOrDefault(h, 0) > heat);
    }

    private Two chosen(State s, int rule, int heat) {
        if (rule < 0 || s.sugar == 0) {
            return null;
        }
        Two best = null;
        BigInteger most = BigInteger.ZERO;
        for (int one = 0; one < s.place.size(); one++) {
            for (int other = one + 1; other < s.place.size(); other++) {
                Two two = new Two(one, other);
                if (s.hard.getOrDefault(two, 9) >= 9) {
                    continue;
                }
                Map<String, Integer> w = new HashMap<>();
                w.put("one", one);
                w.put("other", other);
                w.put("hard", s.hard.get(two));
                w.put("place", s.place.get(one));
                w.put("placeo", s.place.get(other));
                w.put("apart", Math.abs(s.place.get(one) - s.place.get(other)));
                w.put("rock", s.rock.getOrDefault(one, 0));
                w.put("rocko", s.rock.getOrDefault(other, 0));
                w.put("heat", heat);
                w.put("next", told(s.day + 1));
                w.put("sugar", s.sugar);
                w.put("day", s.day);
                BigInteger worth = BigInteger.ZERO;
                for (Clause clause : rules.get(rule)) {
                    if (clause.test == null || holds(clause.test, w)) {
                        worth = worth(clause.sum, w);
                        break;
                    }
                }
                if (worth.compareTo(most) > 0) {
                    most = worth;
                    best = two;
                }
            }
        }
        return best;
    }

    private int pass(State s, Two two, int heat) {
        if (two != null) {
            s.hard.merge(two, 1, Integer::sum);
            s.sugar--;
        }
        List<Integer> was = new ArrayList<>(s.place);
        for (int h = 0; h < was.size(); h++) {
            Set<Integer> block = block(s, h, heat);
            if (was.get(h) < all.told.hill && !fast(s, block, heat)) {
                s.place.set(h, Math.min(all.told.hill, was.get(h) + Math.max(0, heat - (block.size() - 1))));
            }
        }
        for (int h = 0; h < was.size(); h++) {
            int house = h;
            if (river(s, h)) {
                s.rock.remove(h);
                s.hard.keySet().removeIf(t -> t.one == house || t.other == house);
            }
        }
        int gone = 0;
        for (int a = 0; a < was.size(); a++) {
            boolean moved = s.place.get(a) > was.get(a);
            gone += moved ? 1 : 0;
            for (int b = 0; b < was.size(); b++) {
                if (moved && a != b && !river(s, a) && s.place.get(a).equals(s.place.get(b)) && all.told.stick > 0) {
                    s.hard.putIfAbsent(Two.of(a, b), all.told.stick);
                }
            }
        }
        s.ice = Math.max(0, s.ice - 1);
        s.day++;
        return gone;
    }

    private State after(State from, int rule, int n) {
        State s = from.twin();
        for (int k = 0; k < n; k++) {
            pass(s, chosen(s, rule, heat(s)), heat(s));
        }
        return s;
    }

    private State after(State from, int n) {
        return after(from, all.force, n);
    }

    // ---- the face

    private boolean none() {
        return all.told == null;
    }

    private boolean is(int house) {
        return house >= 0 && house < all.now.place.size();
    }

    private boolean two(int one, int other) {
        return is(one) && is(other) && one != other;
    }

    private static boolean in(int n, int least, int most) {
        return n >= least && n <= most;
    }

    private static int bits(Iterable<Integer> houses) {
        int bits = 0;
        for (int h : houses) {
            bits |= 1 << h;
        }
        return bits;
    }

    private int rivers(State s) {
        int many = 0;
        for (int h = 0; h < s.place.size(); h++) {
            many += river(s, h) ? 1 : 0;
        }
        return many;
    }

    private static int places(State s) {
        return s.place.stream().mapToInt(Integer::intValue).sum();
    }

    private void act() {
        all.past.addLast(all.now.twin());
        if (all.past.size() > 20) {
            all.past.removeFirst();
        }
    }

    int feed(int... numbers) {
        if (tape.length() > 380) {
            return -1;
        }
        for (int n : numbers) {
            tape.append((char) (n >>> 24)).append((char) (n >>> 16 & 255)).append((char) (n >>> 8 & 255)).append((char) (n & 255));
        }
        return tape.length();
    }

    int end(int n) {
        if (n < 0 || n > tape.length()) {
            return -1;
        }
        tape.setLength(n);
        return n;
    }

    int town() {
        String text = tape.toString();
        tape.setLength(0);
        try {
            all.told = readTown(text);
        } catch (Fault f) {
            return -2 - f.number;
        }
        all.now = begin();
        all.past.clear();
        all.notes.clear();
        return all.told.houses.size();
    }

    private State begin() {
        State s = new State();
        s.sugar = all.told.sugar;
        s.place = new ArrayList<>(all.told.houses);
        s.rock = new HashMap<>(all.told.rocks);
        s.hard = new HashMap<>(all.told.joins);
        return s;
    }

    int rule() {
        if (rules.size() == 6) {
            return -1;
        }
        String text = tape.toString();
        tape.setLength(0);
        try {
            rules.add(readRule(text));
        } catch (Fault f) {
            return -2 - f.number;
        }
        return rules.size() - 1;
    }

    int force(int rule) {
        if (!in(rule, -1, rules.size() - 1)) {
            return -2;
        }
        int was = all.force;
        all.force = rule;
        return was;
    }

    int house(int house, int what) {
        if (!is(house) || !in(what, 0, 4)) {
            return -1;
        }
        State s = all.now;
        Set<Integer> block = block(s, house, heat(s));
        return switch (what) {
            case 0 -> s.place.get(house);
            case 1 -> s.rock.getOrDefault(house, 0);
            case 2 -> bits(block(s, house, 0, 1));
            case 3 -> bits(block);
            default -> fast(s, block, heat(s)) ? 1 : 0;
        };
    }

    /** HOUSES that one step leads to. */
    private static Set<Integer> block(State s, int house, int heat, int steps) {
        Set<Integer> found = new HashSet<>();
        for (Map.Entry<Two, Integer> e : s.hard.entrySet()) {
            if (steps == 1 && e.getValue() > heat && (e.getKey().one == house || e.getKey().other == house)) {
                found.add(e.getKey().one + e.getKey().other - house);
            }
        }
        return found;
    }

    int pourOf(int one, int other) {
        return two(one, other) ? all.now.hard.getOrDefault(Two.of(one, other), 0) : -1;
    }

    int day() {
        if (none() || all.now.day == 999) {
            return -1;
        }
        act();
        return pass(all.now, chosen(all.now, all.force, heat(all.now)), heat(all.now));
    }

    int crack(int one, int other) {
        if (!two(one, other) || !all.now.hard.containsKey(Two.of(one, other))) {
            return -1;
        }
        act();
        return all.now.hard.remove(Two.of(one, other));
    }

    int pour(int one, int other, int hard) {
        State s = all.now;
        if (!two(one, other) || s.hard.containsKey(Two.of(one, other)) || river(s, one) || river(s, other)
                || Math.abs(s.place.get(one) - s.place.get(other)) > 3 || !in(hard, 1, 9) || hard > s.sugar) {
            return -1;
        }
        act();
        s.hard.put(Two.of(one, other), hard);
        s.sugar -= hard;
        return s.sugar;
    }

    int rock(int house, int hard) {
        State s = all.now;
        if (!is(house) || river(s, house)) {
            return -1;
        }
        int more = hard - s.rock.getOrDefault(house, 0);
        if (hard > 9 || hard < 0 || more <= 0 || more > s.sugar) {
            return -1;
        }
        act();
        s.rock.put(house, hard);
        s.sugar -= more;
        return s.sugar;
    }

    int ice(int days) {
        if (none() || !in(days, 1, 9)) {
            return -1;
        }
        act();
        int was = all.now.ice;
        all.now.ice = days;
        return was;
    }

    int undo() {
        if (all.past.isEmpty()) {
            return -2;
        }
        all.now = all.past.removeLast();
        return all.past.size();
    }

    int ahead(int house, int n, int what) {
        if (none() || !in(n, 0, 100) || !in(what, 0, 2) || what == 0 && !is(house)) {
            return -1;
        }
        State s = after(all.now, n);
        return what == 0 ? s.place.get(house) : what == 1 ? rivers(s) : s.sugar;
    }

    int down(int house) {
        if (!is(house)) {
            return -1;
        }
        State s = all.now.twin();
        for (int k = 0; k < 100; k++) {
            if (river(s, house)) {
                return s.day;
            }
            s = after(s, 1);
        }
        return -2;
    }

    int part(int one, int other, int what) {
        if (!two(one, other) || !in(what, 0, 1)) {
            return -1;
        }
        // By cracking every set of pours, the fewest first.
        List<Two> pours = new ArrayList<>(all.now.hard.keySet());
        int fewest = 99;
        int least = 0;
        for (int set = 0; set < 1 << pours.size(); set++) {
            int many = Integer.bitCount(set);
            if (many > fewest) {
                continue;
            }
            State s = new State();
            for (int k = 0; k < pours.size(); k++) {
                if ((set >> k & 1) == 0) {
                    s.hard.put(pours.get(k), 1);
                }
            }
            Set<Integer> side = block(s, one, 0);
            if (!side.contains(other) && (many < fewest || bits(side) < least)) {
                fewest = many;
                least = bits(side);
            }
        }
        return what == 0 ? fewest : least;
    }

    int blocks(int what) {
        if (none() || !in(what, 0, 1)) {
            return -1;
        }
        Map<Set<Integer>, Integer> found = new LinkedHashMap<>();
        for (int h = 0; h < all.now.place.size(); h++) {
            if (!river(all.now, h)) {
                found.putIfAbsent(block(all.now, h, heat(all.now)), h);
            }
        }
        int size = found.keySet().stream().mapToInt(Set::size).max().orElse(0);
        return what == 0 ? found.size() : found.keySet().stream().filter(b -> b.size() == size).findFirst().map(Model::bits).orElse(0);
    }

    int stay(int house, int n) {
        if (!is(house) || !in(n, 1, 60)) {
            return -1;
        }
        for (int rock = 0; rock <= 9; rock++) {
            State s = all.now.twin();
            s.rock.put(house, rock);
            if (after(s, n).place.get(house).equals(all.now.place.get(house))) {
                return rock;
            }
        }
        return -2;
    }

    int iced(int n) {
        if (none() || !in(n, 1, 60)) {
            return -1;
        }
        for (int ice = 0; ice <= 9; ice++) {
            State s = all.now.twin();
            s.ice = ice;
            s = after(s, n);
            boolean all = true;
            for (int h = 0; h < s.place.size(); h++) {
                all &= river(this.all.now, h) || !river(s, h);
            }
            if (all) {
                return ice;
            }
        }
        return -2;
    }

    int stood(int house, int place, int n, int what) {
        if (!is(house) || !in(place, 0, all.told.hill) || !in(n, 1, 30) || !in(what, 0, 1)) {
            return -1;
        }
        List<Integer> found = new ArrayList<>();
        for (int p = 0; p < all.told.hill; p++) {
            State s = all.now.twin();
            s.place.set(house, p);
            if (after(s, n).place.get(house) == place) {
                found.add(p);
            }
        }
        return what == 0 ? found.size() : found.isEmpty() ? -2 : found.get(0);
    }

    int row(int n, int what) {
        if (none() || !in(n, 1, 3) || !in(what, 0, 3)) {
            return -3;
        }
        if (what > n) {
            return -2;
        }
        // All rows, each as the codes of its twos, in their order.
        Map<List<Integer>, State> rows = new LinkedHashMap<>();
        rows.put(List.of(), all.now);
        for (int k = 0; k < n; k++) {
            Map<List<Integer>, State> longer = new LinkedHashMap<>();
            for (Map.Entry<List<Integer>, State> e : rows.entrySet()) {
                for (int code = -1; code < 48; code++) {
                    Two two = code < 0 ? null : new Two(code / 8, code % 8);
                    State s = e.getValue().twin();
                    if (two == null || s.sugar > 0 && s.hard.getOrDefault(two, 9) < 9) {
                        pass(s, two, heat(s));
                        List<Integer> row = new ArrayList<>(e.getKey());
                        row.add(code);
                        longer.put(row, s);
                    }
                }
            }
            rows = longer;
        }
        List<Integer> best = null;
        int least = Integer.MAX_VALUE;
        for (Map.Entry<List<Integer>, State> e : rows.entrySet()) {
            if (places(e.getValue()) < least) {
                least = places(e.getValue());
                best = e.getKey();
            }
        }
        return what == 0 ? least : best.get(what - 1);
    }

    int order(int house) {
        if (!is(house)) {
            return -1;
        }
        List<int[]> all = new ArrayList<>();
        for (int h = 0; h < this.all.now.place.size(); h++) {
            int down = down(h);
            all.add(new int[] {down == -2 ? Integer.MAX_VALUE : down, h});
        }
        all.sort((a, b) -> a[0] != b[0] ? Integer.compare(a[0], b[0]) : Integer.compare(a[1], b[1]));
        for (int k = 0; k < all.size(); k++) {
            if (all.get(k)[1] == house) {
                return k;
            }
        }
        return -99;
    }

    int rests(int one, int other, int n, int what) {
        if (!two(one, other) || !in(n, 1, 20) || !in(what, 0, 2)) {
            return -1;
        }
        Map<List<Integer>, List<Integer>> losses = new LinkedHashMap<>();
        for (int a = 0; a <= 8; a += 2) {
            for (int b = 0; b <= 8; b += 2) {
                State s = all.now.twin();
                s.rock.put(one, a);
                s.rock.put(other, b);
                s = after(s, n);
                losses.put(List.of(a, b), List.of(s.place.get(one) + a / 2, s.place.get(other) + b / 2));
            }
        }
        List<List<Integer>> rests = new ArrayList<>();
        for (Map.Entry<List<Integer>, List<Integer>> e : losses.entrySet()) {
            boolean rest = true;
            for (int c = 0; c <= 8; c += 2) {
                rest &= losses.get(List.of(c, e.getKey().get(1))).get(0) >= e.getValue().get(0);
                rest &= losses.get(List.of(e.getKey().get(0), c)).get(1) >= e.getValue().get(1);
            }
            if (rest) {
                rests.add(e.getKey());
            }
        }
        return what == 0 ? rests.size() : rests.isEmpty() ? -2 : rests.get(0).get(what - 1);
    }

    int parts(int treacle, int house) {
        if (!is(house) || !in(treacle, 0, 9999)) {
            return -1;
        }
        int n = all.now.place.size();
        long[] weight = new long[n];
        all.now.rock.forEach((h, r) -> weight[h] += r);
        all.now.hard.forEach((t, r) -> {
            weight[t.one] += r;
            weight[t.other] += r;
        });
        long total = 0;
        for (long w : weight) {
            total += w;
        }
        if (total == 0) {
            return 0;
        }
        long[] part = new long[n];
        long[] lost = new long[n];
        long left = treacle;
        for (int h = 0; h < n; h++) {
            part[h] = treacle * weight[h] / total;
            lost[h] = treacle * weight[h] - part[h] * total;
            left -= part[h];
        }
        for (; left > 0; left--) {
            int most = 0;
            for (int h = 1; h < n; h++) {
                most = lost[h] > lost[most] ? h : most;
            }
            part[most]++;
            lost[most] = -1;
        }
        return (int) part[house];
    }

    int note(int n, int house, int place) {
        if (n == -1) {
            all.notes.clear();
            return 0;
        }
        if (none() || !in(n, 0, 60) || !is(house) || !in(place, 0, all.told.hill) || all.notes.size() == 10) {
            return -2;
        }
        all.notes.add(new Note(n, house, place));
        return all.notes.size();
    }

    private List<Integer> ruling() {
        List<Integer> so = new ArrayList<>();
        for (int rule = -1; rule < rules.size(); rule++) {
            int r = rule;
            if (all.notes.stream().allMatch(note -> after(begin(), r, note.day).place.get(note.house) == note.place)) {
                so.add(rule);
            }
        }
        return so;
    }

    int ruled(int what) {
        if (none() || !in(what, 0, 1)) {
            return -3;
        }
        List<Integer> so = ruling();
        return what == 0 ? so.size() : so.isEmpty() ? -2 : so.get(0);
    }

    int look(int n, int what) {
        if (none() || !in(n, 0, 60) || !in(what, 0, 1)) {
            return -1;
        }
        List<Integer> so = ruling();
        int best = -2;
        int fewest = Integer.MAX_VALUE;
        for (int h = 0; h < all.now.place.size() && !so.isEmpty(); h++) {
            Map<Integer, Integer> alike = new TreeMap<>();
            for (int rule : so) {
                alike.merge(after(begin(), rule, n).place.get(h), 1, Integer::sum);
            }
            int most = alike.values().stream().mapToInt(Integer::intValue).max().orElse(0);
            if (most < fewest) {
                fewest = most;
                best = h;
            }
        }
        return what == 0 || best < 0 ? best : fewest;
    }

    int seed(int x) {
        if (x < 0) {
            return -1;
        }
        int was = all.x;
        all.x = x;
        return was;
    }

    int summers(int m, int n, int p, int what) {
        if (none() || !in(m, 1, 10) || !in(n, 1, 60) || !in(p, 0, 100) || !in(what, 0, 1)) {
            return -1;
        }
        long[] x = {all.x};
        int sum = 0;
        for (int k = 0; k < m; k++) {
            State s = all.now.twin();
            for (int d = 0; d < n; d++) {
                int heat = draw(x) % 100 < p ? draw(x) % 10 : heat(s);
                pass(s, chosen(s, all.force, heat), heat);
            }
            sum += what == 0 ? rivers(s) : places(s);
        }
        return sum;
    }

    private static int draw(long[] x) {
        x[0] = BigInteger.valueOf(x[0]).multiply(BigInteger.valueOf(1103515245)).add(BigInteger.valueOf(12345))
                .mod(BigInteger.ONE.shiftLeft(31)).longValue();
        return (int) (x[0] >> 16);
    }

    int count(int what) {
        State s = all.now;
        Told t = all.told;
        switch (what) {
            case 0: return none() ? 0 : t.hill;
            case 1: return none() ? 0 : t.stick;
            case 2: return none() ? 0 : t.heats.size();
            case 3: return s.place.size();
            case 4: return rules.size();
            case 5: return all.force;
            case 6: return s.day;
            case 7: return heat(s);
            case 8: return s.sugar;
            case 9: return s.ice;
            case 10:
                List<Integer> rivers = new ArrayList<>();
                for (int h = 0; h < s.place.size(); h++) {
                    if (river(s, h)) {
                        rivers.add(h);
                    }
                }
                return bits(rivers);
            case 11: return places(s);
            case 12: return all.notes.size();
            case 13: return all.past.size();
            case 14: return all.x;
            case 15: return tape.length();
            default: return -1;
        }
    }

    int image(int k) {
        if (!in(k, 0, 3)) {
            return -1;
        }
        images.put(k, all.twin());
        return all.now.day;
    }

    int back(int k) {
        if (!images.containsKey(k)) {
            return -1;
        }
        all = images.get(k).twin();
        return all.now.day;
    }
}
