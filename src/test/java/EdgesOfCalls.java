/** Promises 1 to 14: the edges of the calls that make and change. */
final class EdgesOfCalls {
    private static final int MIN = Integer.MIN_VALUE;
    private static final int MAX = Integer.MAX_VALUE;
    private static final String TOWN = "town 10 20 4;heat 4;house 0;house 3;house 7;house 9;join 0 1 3;rock 1 6";

    private EdgesOfCalls() {
    }

    static void all() {
        constant();
        newObject();
        feed();
        feedFull();
        end();
        endRefused();
        town();
        townStays();
        townFault();
        rule();
        ruleFault();
        sixRules();
        force();
        forceRefused();
        house();
        houseRefused();
        pourOf();
        pourOfRefused();
        day();
        dayRefused();
        crack();
        crackRefused();
        pour();
        pourRefused();
        rock();
        rockRefused();
        ice();
        iceRefused();
        undo();
        undoRefused();
    }

    private static void constant() {
        Doc.terms("The constants: `NONE = -1`: None.");
        Due.due("NONE", ToffeeTown.NONE, -1);
    }

    private static void newObject() {
        Doc.promise(1, "`ToffeeTown()`: No TOWN, no RULES, none IN FORCE.");
        ToffeeTown x = new ToffeeTown();
        for (int what = 0; what <= 15; what++) {
            Due.answers(x, what == 5 ? -1 : 0, "count", what);
        }
        Due.refused(x, -1, "day");
        Due.refused(x, -2, "force", 0);
        Due.refused(x, -1, "house", 0, 0);
        Due.refused(x, -2, "undo");
        Due.refused(x, -1, "back", 0);
        x.day();
        Due.due("another object knows nothing of it", Due.made(TOWN, "pour 1").count(3), 4);
        Due.answers(x, 0, "count", 3);
    }

    private static void feed() {
        Doc.promise(2, "Twenty bytes come behind the TAPE, of each number the highest first: how many it has;");
        ToffeeTown x = new ToffeeTown();
        // "town", " 60 ", "99 9", ";hea", "t 7 "
        Due.answers(x, 20, "feed", 0x746f776e, 0x20363020, 0x39392039, 0x3b686561, 0x74203720);
        // ";hou", "se 5", "9   ", "    ", "    "
        Due.answers(x, 40, "feed", 0x3b686f75, 0x73652035, 0x39202020, 0x20202020, 0x20202020);
        Due.answers(x, 1, "town");
        Due.answers(x, 60, "count", 0);
        Due.answers(x, 99, "count", 8);
        Due.answers(x, 9, "count", 1);
        Due.answers(x, 7, "count", 7);
        Due.answers(x, 59, "house", 0, 0);
        // Bytes above 127, and the number with its highest bit set
        Due.answers(x, 20, "feed", MIN, -1, MAX, 0, 0xe9e9e9e9);
        Due.answers(x, -3, "town");
    }

    private static void feedFull() {
        Doc.promise(2, "NONE, and none comes, if it would have more than 400.");
        ToffeeTown x = new ToffeeTown();
        for (int bytes = 20; bytes <= 400; bytes += 20) {
            Due.answers(x, bytes, "feed", 0x20202020, 0x20202020, 0x20202020, 0x20202020, 0x20202020);
        }
        Due.refused(x, -1, "feed", 1, 2, 3, 4, 5);
        x.end(381);
        Due.refused(x, -1, "feed", 1, 2, 3, 4, 5);
        x.end(380);
        Due.answers(x, 400, "feed", 0x20202020, 0x20202020, 0x20202020, 0x20202020, 0x20202020);
        Due.due("all blanks", x.town(), Due.fault(400, 0));
    }

    private static void end() {
        Doc.promise(3, "The TAPE has its first n bytes alone: n;");
        ToffeeTown x = new ToffeeTown();
        Due.due("of none", x.end(0), 0);
        Due.feed(x, "town 5 0 0;house 4xx");
        Due.answers(x, 20, "end", 20);
        Due.answers(x, 20, "count", 15);
        Due.answers(x, 18, "end", 18);
        Due.answers(x, 18, "count", 15);
        Due.answers(x, 1, "town");
        Due.feed(x, "town 5 0 0;house 4xx");
        Due.answers(x, 10, "end", 10);
        Due.feed(x, ";house 3;house 2");
        Due.answers(x, 2, "town");
        x.feed(1, 2, 3, 4, 5);
        Due.answers(x, 0, "end", 0);
        Due.answers(x, 0, "count", 15);
    }

    private static void endRefused() {
        Doc.promise(3, "NONE, and nothing happens, if it has not so many, or n is below 0.");
        ToffeeTown x = new ToffeeTown();
        Due.refused(x, -1, "end", 1);
        Due.refused(x, -1, "end", -1);
        x.feed(1, 2, 3, 4, 5);
        for (int n : new int[] {21, 400, 401, MAX, -1, -20, MIN}) {
            Due.refused(x, -1, "end", n);
        }
        x.end(7);
        Due.refused(x, -1, "end", 8);
    }

    private static void town() {
        Doc.promise(4, "The TAPE, which is empty then, is the TOWN in place of the one there was (no NOTES, nothing to be UNDONE;");
        ToffeeTown x = Due.made(TOWN, "pour 1");
        x.note(0, 0, 0);
        x.ice(3);
        x.day();
        Due.due("another", Due.town(x, "town 60 1 0;house 9;house 8"), 2);
        Due.due("bytes", x.count(15), 0);
        Due.due("HILL", x.count(0), 60);
        Due.due("STICK", x.count(1), 0);
        Due.due("heats", x.count(2), 0);
        Due.due("DAY", x.count(6), 0);
        Due.due("SUGAR", x.count(8), 1);
        Due.due("ice", x.count(9), 0);
        Due.due("NOTES", x.count(12), 0);
        Due.due("ACTS", x.count(13), 0);
        Due.refused(x, -2, "undo");
        Due.due("no pour of the one there was", x.pourOf(0, 1), 0);
        Due.due("no ROCK of the one there was", x.house(1, 1), 0);
        Due.refused(x, -1, "house", 2, 0);
        Due.due("by nothing that is noted", x.ruled(0), 2);
    }

    private static void townStays() {
        Doc.promise(4, "the RULE IN FORCE and x stay): how many HOUSES;");
        ToffeeTown x = Due.made(TOWN, "pour 1");
        x.seed(77);
        x.image(2);
        for (int houses = 0; houses <= 6; houses++) {
            Due.due("HOUSES", Due.town(x, "town 5 0 0" + Due.times(";house 0", houses)), houses);
            Due.due("the RULE IN FORCE", x.count(5), 0);
            Due.due("RULES", x.count(4), 1);
            Due.due("x", x.count(14), 77);
        }
        Due.due("an IMAGE", x.back(2), 0);
        Due.due("an IMAGE's HOUSES", x.count(3), 4);
    }

    private static void townFault() {
        Doc.promise(4, "-2 - its FAULT, and all stays.");
        ToffeeTown x = Due.made(TOWN, "pour 1");
        x.note(0, 0, 0);
        x.seed(5);
        x.ice(3);
        x.day();
        String was = Due.seen(x);
        for (String text : new String[] {"", "x", "town 60 99 9;heat 9;house 59;house 1;join 0 1 9;rock 0 9;", "town 61 0 0", "house 1"}) {
            Due.due("a FAULT of '" + text + "'", Due.town(x, text) < -2 ? 1 : 0, 1);
            Due.due("as it was behind '" + text + "'", Due.seen(x).equals(was) ? 1 : 0, 1);
        }
        Due.answers(x, 1, "undo");
        Due.answers(x, 0, "undo");
        ToffeeTown none = new ToffeeTown();
        Due.due("the least", none.town(), -3);
        Due.due("no TOWN", none.count(0), 0);
    }

    private static void rule() {
        Doc.promise(5, "The TAPE, which is empty then, is a RULE: its number;");
        ToffeeTown x = new ToffeeTown();
        for (int rule = 0; rule < 6; rule++) {
            Due.due("its number", Due.rule(x, "pour " + rule), rule);
            Due.due("bytes", x.count(15), 0);
            Due.due("RULES", x.count(4), rule + 1);
            Due.due("none IN FORCE by that", x.count(5), -1);
        }
    }

    private static void ruleFault() {
        Doc.promise(5, "-2 - its FAULT;");
        ToffeeTown x = Due.made(TOWN, "pour 1");
        String was = Due.seen(x);
        for (String text : new String[] {"", "pour", "pour 1;", "pour 100000", "town 5 0 0"}) {
            Due.due("a FAULT of '" + text + "'", Due.rule(x, text) < -2 ? 1 : 0, 1);
            Due.due("as it was behind '" + text + "'", Due.seen(x).equals(was) ? 1 : 0, 1);
        }
        Due.due("the next number", Due.rule(x, "pour 2"), 1);
    }

    private static void sixRules() {
        Doc.promise(5, "NONE, and nothing happens: there are 6.");
        ToffeeTown x = Due.made(TOWN, "pour 1");
        for (int rule = 1; rule < 6; rule++) {
            Due.rule(x, "pour " + rule);
        }
        Due.feed(x, "pour 9");
        Due.refused(x, -1, "rule");
        x.end(4);
        Due.refused(x, -1, "rule");
        x.end(0);
        Due.refused(x, -1, "rule");
        Due.due("the TAPE is for a TOWN still", Due.town(x, "town 5 0 0"), 0);
    }

    private static void force() {
        Doc.promise(6, "A RULE is IN FORCE (NONE: none): which was;");
        ToffeeTown x = new ToffeeTown();
        Due.answers(x, -1, "force", -1);
        for (int rule = 0; rule < 6; rule++) {
            Due.rule(x, "pour 1");
        }
        Due.answers(x, -1, "force", 5);
        Due.answers(x, 5, "force", 0);
        Due.answers(x, 0, "force", 0);
        Due.answers(x, 0, "force", -1);
        Due.answers(x, -1, "force", -1);
    }

    private static void forceRefused() {
        Doc.promise(6, "-2, and nothing happens, if there is none such.");
        ToffeeTown x = new ToffeeTown();
        Due.refused(x, -2, "force", 0);
        for (int rules = 1; rules <= 6; rules++) {
            Due.rule(x, "pour 1");
            x.force(rules - 1);
            for (int rule : new int[] {rules, 6, MAX, -2, MIN}) {
                Due.refused(x, -2, "force", rule);
            }
        }
    }

    private static void house() {
        Doc.promise(7, "Of a HOUSE what 0: PLACE, 1: ROCK (0 without), 2: HOUSES with a pour to it, as bits, 3: its BLOCK by HEAT of this DAY, as bits,"
                + " 4: 1 if that is FAST, else 0.");
        ToffeeTown x = Due.made("town 10 20 4;heat 4;house 0;house 3;house 7;house 9;join 0 1 5;join 1 2 4;rock 1 6;rock 2 1", null);
        int[][] want = {{0, 0, 2, 3, 1}, {3, 6, 5, 3, 1}, {7, 1, 2, 4, 0}, {9, 0, 0, 8, 0}};
        for (int house = 0; house < 4; house++) {
            for (int what = 0; what < 5; what++) {
                Due.answers(x, want[house][what], "house", house, what);
            }
        }
        x.day();
        int[][] then = {{0, 0, 2, 3, 1}, {3, 6, 1, 3, 1}, {10, 0, 0, 4, 0}, {10, 0, 0, 8, 0}};
        for (int house = 0; house < 4; house++) {
            for (int what = 0; what < 5; what++) {
                Due.answers(x, then[house][what], "house", house, what);
            }
        }
    }

    private static void houseRefused() {
        Doc.promise(7, "NONE without these.");
        ToffeeTown x = Due.made(TOWN, null);
        for (int house : new int[] {-1, 4, 5, 6, MAX, MIN}) {
            for (int what = 0; what < 5; what++) {
                Due.answers(x, -1, "house", house, what);
                Due.answers(new ToffeeTown(), -1, "house", 0, what);
            }
        }
        for (int what : new int[] {-1, 5, MAX, MIN}) {
            Due.answers(x, -1, "house", 0, what);
        }
        Due.answers(Due.made("town 5 0 0", null), -1, "house", 0, 0);
    }

    private static void pourOf() {
        Doc.promise(8, "HARD of the pour between two HOUSES (0: there is none);");
        ToffeeTown x = Due.made(TOWN, null);
        Due.answers(x, 3, "pourOf", 0, 1);
        Due.answers(x, 3, "pourOf", 1, 0);
        Due.answers(x, 0, "pourOf", 2, 3);
        Due.answers(x, 0, "pourOf", 3, 2);
    }

    private static void pourOfRefused() {
        Doc.promise(8, "NONE without these (unlike).");
        ToffeeTown x = Due.made(TOWN, null);
        for (int house = 0; house < 4; house++) {
            Due.answers(x, -1, "pourOf", house, house);
        }
        for (int house : new int[] {-1, 4, 5, 6, MAX, MIN}) {
            Due.answers(x, -1, "pourOf", house, 0);
            Due.answers(x, -1, "pourOf", 0, house);
            Due.answers(x, -1, "pourOf", house, house);
        }
        Due.answers(new ToffeeTown(), -1, "pourOf", 0, 1);
    }

    private static void day() {
        Doc.promise(9, "A DAY: how many HOUSES go down on it;");
        ToffeeTown x = Due.made("town 10 0 0;heat 4;house 0;house 3;house 9;house 9;rock 0 9", null);
        Due.answers(x, 3, "day");
        Due.answers(x, 1, "day");
        Due.due("none is left to", Due.made("town 10 0 0;heat 4", null).day(), 0);
        Due.answers(x, 0, "day");
        Due.answers(x, 3, "count", 6);
    }

    private static void dayRefused() {
        Doc.promise(9, "NONE, and nothing happens, without a TOWN, or at DAY 999.");
        ToffeeTown x = new ToffeeTown();
        Due.refused(x, -1, "day");
        Due.town(x, "town");
        Due.refused(x, -1, "day");
        Due.town(x, "town 10 0 0;heat 4;house 0;rock 0 9");
        for (int day = 0; day < 998; day++) {
            x.day();
        }
        Due.answers(x, 0, "day");
        Due.refused(x, -1, "day");
        Due.answers(x, 19, "undo");
        Due.answers(x, 0, "day");
        Due.refused(x, -1, "day");
    }

    private static void crack() {
        Doc.promise(10, "CRACK: HARD as it was;");
        ToffeeTown x = Due.made("town 10 0 0;house 0;house 3;house 9;join 0 1 1;join 1 2 9", null);
        Due.answers(x, 1, "crack", 0, 1);
        Due.answers(x, 9, "crack", 2, 1);
        Due.answers(x, 2, "count", 13);
    }

    private static void crackRefused() {
        Doc.promise(10, "NONE, and nothing happens, without these, or a pour.");
        ToffeeTown x = Due.made(TOWN, null);
        for (int house : new int[] {-1, 0, 4, 6, MAX, MIN}) {
            Due.refused(x, -1, "crack", house, 0);
            Due.refused(x, -1, "crack", 0, house);
        }
        Due.refused(x, -1, "crack", 0, 2);
        Due.refused(x, -1, "crack", 3, 2);
        x.crack(0, 1);
        Due.refused(x, -1, "crack", 0, 1);
        Due.refused(x, -1, "crack", 1, 0);
        Due.refused(new ToffeeTown(), -1, "crack", 0, 1);
    }

    private static void pour() {
        Doc.promise(11, "POUR: SUGAR then;");
        ToffeeTown x = Due.made("town 10 10 0;house 0;house 3;house 0;house 1", null);
        Due.answers(x, 9, "pour", 0, 1, 1);
        Due.answers(x, 0, "pour", 3, 2, 9);
        Due.answers(x, 0, "count", 8);
        Due.answers(x, 1, "pourOf", 1, 0);
        Due.answers(x, 9, "pourOf", 2, 3);
        Due.answers(x, 2, "count", 13);
    }

    private static void pourRefused() {
        Doc.promise(11, "NONE, and nothing happens, without these, or if there is less SUGAR.");
        ToffeeTown x = Due.made(TOWN, null);
        for (int house : new int[] {-1, 2, 4, 6, MAX, MIN}) {
            Due.refused(x, -1, "pour", house, 2, 1);
            Due.refused(x, -1, "pour", 2, house, 1);
        }
        for (int hard : new int[] {0, -1, 10, MAX, MIN}) {
            Due.refused(x, -1, "pour", 2, 3, hard);
        }
        Due.refused(new ToffeeTown(), -1, "pour", 0, 1, 1);
        x = Due.made("town 10 8 0;house 0;house 3", null);
        Due.refused(x, -1, "pour", 0, 1, 9);
        Due.answers(x, 0, "pour", 0, 1, 8);
        x = Due.made("town 10 0 0;house 0;house 3", null);
        Due.refused(x, -1, "pour", 0, 1, 1);
    }

    private static void rock() {
        Doc.promise(12, "ROCK: SUGAR then;");
        ToffeeTown x = Due.made("town 10 10 0;house 0;house 3;rock 1 8", null);
        Due.answers(x, 9, "rock", 1, 9);
        Due.answers(x, 0, "rock", 0, 9);
        Due.answers(x, 9, "house", 0, 1);
        Due.answers(x, 9, "house", 1, 1);
        Due.answers(x, 0, "count", 8);
        Due.answers(x, 2, "count", 13);
    }

    private static void rockRefused() {
        Doc.promise(12, "NONE, and nothing happens, without these, or if there is less SUGAR.");
        ToffeeTown x = Due.made(TOWN, null);
        for (int house : new int[] {-1, 4, 6, MAX, MIN}) {
            Due.refused(x, -1, "rock", house, 9);
        }
        for (int hard : new int[] {6, 5, 0, -1, 10, MAX, MIN}) {
            Due.refused(x, -1, "rock", 1, hard);
        }
        for (int hard : new int[] {0, -1, 10, MAX, MIN}) {
            Due.refused(x, -1, "rock", 0, hard);
        }
        Due.refused(new ToffeeTown(), -1, "rock", 0, 1);
        x = Due.made("town 10 2 0;house 0;rock 0 4", null);
        Due.refused(x, -1, "rock", 0, 7);
        Due.answers(x, 0, "rock", 0, 6);
        Due.refused(x, -1, "rock", 0, 7);
    }

    private static void ice() {
        Doc.promise(13, "ICE: for how many DAYS there was;");
        ToffeeTown x = Due.made(TOWN, null);
        Due.answers(x, 0, "ice", 1);
        Due.answers(x, 1, "ice", 9);
        x.day();
        Due.answers(x, 8, "ice", 8);
        Due.answers(x, 4, "count", 13);
    }

    private static void iceRefused() {
        Doc.promise(13, "NONE, and nothing happens, for others, or without a TOWN.");
        ToffeeTown x = Due.made(TOWN, null);
        x.ice(5);
        for (int days : new int[] {0, -1, 10, MAX, MIN}) {
            Due.refused(x, -1, "ice", days);
        }
        Due.refused(new ToffeeTown(), -1, "ice", 1);
        Due.due("without HOUSES", Due.made("town 5 0 0", null).ice(9), 0);
    }

    private static void undo() {
        Doc.promise(14, "The last ACT is UNDONE: how many more can be;");
        ToffeeTown x = Due.made(TOWN, "pour 1");
        String[] was = new String[6];
        was[0] = Due.seen(x);
        x.day();
        was[1] = Due.seen(x);
        x.ice(9);
        was[2] = Due.seen(x);
        x.crack(0, 1);
        was[3] = Due.seen(x);
        x.pour(0, 1, 9);
        was[4] = Due.seen(x);
        x.rock(0, 9);
        for (int more = 4; more >= 0; more--) {
            Due.answers(x, more, "undo");
            Due.due("as it was ahead of ACT " + more, Due.seen(x).equals(was[more]) ? 1 : 0, 1);
        }
    }

    private static void undoRefused() {
        Doc.promise(14, "-2, and nothing happens: none can.");
        ToffeeTown x = new ToffeeTown();
        Due.refused(x, -2, "undo");
        Due.town(x, TOWN);
        Due.refused(x, -2, "undo");
        x.day();
        x.undo();
        Due.refused(x, -2, "undo");
        x.day();
        x.image(0);
        x.undo();
        x.back(0);
        Due.answers(x, 0, "undo");
        Due.refused(x, -2, "undo");
    }
}
