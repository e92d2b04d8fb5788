import java.lang.reflect.InvocationTargetException;
import java.lang.reflect.Method;
import java.util.Arrays;

/** What the tests share: answers that are due, and texts fed to the TAPE. */
final class Due {
    // Kinds of FAULTS.
    static final int WRONG = 0;
    static final int NUMBER = 1;
    static final int DEEP = 2;
    static final int MANY = 3;
    static final int CLAUSE = 4;

    private static int right = 0;
    private static int wrong = 0;
    /** What is being tested, told with each wrong answer. */
    static String about = "";

    private Due() {
    }

    static void due(String call, long got, long want) {
        if (got == want) {
            right++;
        } else {
            wrong++;
            System.out.println(about + call + " answered " + got + ", due is " + want);
        }
    }

    /** Ends the test: exit code 1 if an answer was wrong, or if nothing was asked. */
    static void end() {
        System.out.println(right + " answers as due, " + wrong + " not");
        System.exit(wrong == 0 && right > 0 ? 0 : 1);
    }

    static int asked() {
        return right + wrong;
    }

    static int call(ToffeeTown x, String name, int... args) {
        for (Method m : ToffeeTown.class.getDeclaredMethods()) {
            if (m.getName().equals(name)) {
                try {
                    return (int) m.invoke(x, Arrays.stream(args).boxed().toArray());
                } catch (IllegalAccessException | InvocationTargetException e) {
                    throw new IllegalStateException(told(name, args), e);
                }
            }
        }
        throw new IllegalArgumentException(name);
    }

    static String told(String name, int... args) {
        String list = Arrays.toString(args);
        return name + "(" + list.substring(1, list.length() - 1) + ")";
    }

    static void answers(ToffeeTown x, int want, String name, int... args) {
        due(told(name, args), call(x, name, args), want);
    }

    /** That answer, and nothing happens. */
    static void refused(ToffeeTown x, int want, String name, int... args) {
        String before = seen(x);
        answers(x, want, name, args);
        due(told(name, args) + " changed " + before + " to " + seen(x) + ": it", before.equals(seen(x)) ? 0 : 1, 0);
    }

    /** All that calls tell of how it is. */
    static String seen(ToffeeTown x) {
        StringBuilder s = new StringBuilder();
        for (int what = 0; what <= 15; what++) {
            s.append(x.count(what)).append(' ');
        }
        for (int house = 0; house < 6; house++) {
            for (int what = 0; what <= 4; what++) {
                s.append(x.house(house, what)).append(' ');
            }
            for (int other = 0; other < house; other++) {
                s.append(x.pourOf(house, other)).append(' ');
            }
        }
        return s.append(x.ruled(0)).append(' ').append(x.ruled(1)).toString();
    }

    static void feed(ToffeeTown x, String text) {
        int start = x.count(15);
        for (int at = 0; at < text.length(); at += 20) {
            x.feed(four(text, at), four(text, at + 4), four(text, at + 8), four(text, at + 12), four(text, at + 16));
        }
        x.end(start + text.length());
    }

    private static int four(String text, int at) {
        int number = 0;
        for (int k = at; k < at + 4; k++) {
            number = number << 8 | (k < text.length() ? text.charAt(k) & 255 : 0);
        }
        return number;
    }

    static int town(ToffeeTown x, String text) {
        feed(x, text);
        return x.town();
    }

    static int rule(ToffeeTown x, String text) {
        feed(x, text);
        return x.rule();
    }

    /** A new object with that TOWN, and that RULE IN FORCE (null: none). */
    static ToffeeTown made(String town, String rule) {
        ToffeeTown x = new ToffeeTown();
        if (rule != null) {
            due("rule " + rule, rule(x, rule), 0);
            x.force(0);
        }
        int told = town(x, town);
        due("town " + town, told >= 0 ? 1 : told, 1);
        return x;
    }

    /** What town() and rule() answer to a text with that FAULT. */
    static int fault(int place, int kind) {
        return -2 - (1 + 8 * place + kind);
    }

    /** A text that is a TOWN of so many HOUSES. */
    static ToffeeTown isTown(String text, int houses) {
        ToffeeTown x = new ToffeeTown();
        due("town '" + text + "'", town(x, text), houses);
        return x;
    }

    /** A text with that FAULT, where the text has an @, which is no part of it. */
    static void noTown(String marked, int kind) {
        townFault(unmarked(marked), marked.indexOf('@'), kind);
    }

    static void townFault(String text, int place, int kind) {
        ToffeeTown x = new ToffeeTown();
        due("town '" + text + "'", town(x, text), fault(place, kind));
        due("HILL behind '" + text + "'", x.count(0), 0);
        due("bytes behind '" + text + "'", x.count(15), 0);
    }

    static void isRule(String text) {
        due("rule '" + text + "'", rule(new ToffeeTown(), text), 0);
    }

    /** As noTown, of a RULE. */
    static void noRule(String marked, int kind) {
        ruleFault(unmarked(marked), marked.indexOf('@'), kind);
    }

    static void ruleFault(String text, int place, int kind) {
        ToffeeTown x = new ToffeeTown();
        due("rule '" + text + "'", rule(x, text), fault(place, kind));
        due("RULES behind '" + text + "'", x.count(4), 0);
        due("bytes behind '" + text + "'", x.count(15), 0);
    }

    private static String unmarked(String marked) {
        if (marked.indexOf('@') < 0 || marked.indexOf('@') != marked.lastIndexOf('@')) {
            throw new IllegalArgumentException("one @: " + marked);
        }
        return marked.replace("@", "");
    }

    /** Whether a TEST holds of HOUSES 0 and 1, which have a pour of HARD 1. */
    static void holds(String test, boolean want) {
        ToffeeTown x = made("town 20 50 0;house 0;house 5;join 0 1 1", "pour 1 if " + test);
        x.day();
        due(test, x.pourOf(0, 1), want ? 2 : 1);
    }

    static void undoAll(ToffeeTown x) {
        for (int more = x.count(13); more > 0; more--) {
            due("undo", x.undo(), more - 1);
        }
    }

    static String times(String text, int n) {
        return text.repeat(n);
    }
}
