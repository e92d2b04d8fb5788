/** What the tests share: answers that are due, and texts fed to the TAPE. */
final class Due {
    private static int right = 0;
    private static int wrong = 0;

    private Due() {
    }

    static void due(String call, long got, long want) {
        if (got == want) {
            right++;
        } else {
            wrong++;
            System.out.println(call + " answered " + got + ", due is " + want);
        }
    }

    /** Ends the test: exit code 1 if an answer was wrong, or if nothing was asked. */
    static void end() {
        System.out.println(right + " answers as due, " + wrong + " not");
        System.exit(wrong == 0 && right > 0 ? 0 : 1);
    }

    static void feed(ToffeeTown x, String text) {
        int start = x.count(15);
        for (int at = 0; at < text.length(); at += 20) {
            x.feed(four(text, at), four(text, at + 4), four(text, at + 8), four(text, at + 12), four(text, at + 16));
        }
        x.end(start + text.length());
    }

    private static int four(String text, int at) {
        int number = 0;
        for (int k = at; k < at + 4; k++) {
            number = number << 8 | (k < text.length() ? text.charAt(k) & 255 : 0);
        }
        return number;
    }

    static int town(ToffeeTown x, String text) {
        feed(x, text);
        return x.town();
    }

    static int rule(ToffeeTown x, String text) {
        feed(x, text);
        return x.rule();
    }

    /** A new object with that TOWN, and that RULE IN FORCE (null: none). */
    static ToffeeTown made(String town, String rule) {
        ToffeeTown x = new ToffeeTown();
        if (rule != null) {
            due("rule " + rule, rule(x, rule), 0);
            x.force(0);
        }
        int told = town(x, town);
        due("town " + town, told >= 0 ? 1 : told, 1);
        return x;
    }

    /** What town() and rule() answer to a text with that FAULT. */
    static int fault(int place, int kind) {
        return -2 - (1 + 8 * place + kind);
    }

    static void undoAll(ToffeeTown x) {
        for (int more = x.count(13); more > 0; more--) {
            due("undo", x.undo(), more - 1);
        }
    }

    static String times(String text, int n) {
        return text.repeat(n);
    }
}
