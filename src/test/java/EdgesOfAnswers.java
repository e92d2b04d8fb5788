/** Promises 15 to 33: the edges of the calls that ask, of NOTES, x and IMAGES. */
final class EdgesOfAnswers {
    private static final int MIN = Integer.MIN_VALUE;
    private static final int MAX = Integer.MAX_VALUE;
    private static final int[] NO_HOUSE = {-1, 4, 5, 6, MAX, MIN};
    private static final int[] NO_WHAT = {-1, 2, 3, MAX, MIN};
    private static final String TOWN = "town 10 20 4;heat 4;house 0;house 3;house 7;house 9;join 0 1 3;rock 1 6";

    private EdgesOfAnswers() {
    }

    static void all() {
        ahead();
        aheadRefused();
        down();
        downRefused();
        part();
        partRefused();
        blocks();
        blocksRefused();
        stay();
        stayRefused();
        iced();
        icedRefused();
        stood();
        stoodRefused();
        row();
        rowRefused();
        order();
        orderRefused();
        rests();
        restsRefused();
        parts();
        partsRefused();
        note();
        noteRefused();
        ruled();
        ruledRefused();
        look();
        lookRefused();
        seed();
        seedRefused();
        summers();
        summersRefused();
        count();
        countRefused();
        image();
        imageRefused();
        back();
        backRefused();
    }

    /** A TOWN of no HOUSES. */
    private static ToffeeTown empty() {
        return Due.made("town 5 7 0;heat 3", null);
    }

    private static void ahead() {
        Doc.promise(15, "AHEAD what 0: PLACE of the HOUSE, 1: how many, 2: SUGAR (of no HOUSE).");
        ToffeeTown x = Due.made(TOWN, null);
        Due.answers(x, 7, "ahead", 2, 0, 0);
        Due.answers(x, 10, "ahead", 2, 1, 0);
        for (int house : new int[] {0, 3, -1, 4, MAX, MIN}) {
            Due.answers(x, 2, "ahead", house, 1, 1);
            Due.answers(x, 20, "ahead", house, 1, 2);
        }
        Due.answers(empty(), 0, "ahead", 0, 100, 1);
        Due.answers(empty(), 7, "ahead", 0, 100, 2);
    }

    private static void aheadRefused() {
        Doc.promise(15, "NONE without these, or a TOWN.");
        ToffeeTown x = Due.made(TOWN, null);
        for (int house : NO_HOUSE) {
            Due.refused(x, -1, "ahead", house, 0, 0);
        }
        for (int n : new int[] {-1, 101, MAX, MIN}) {
            for (int what = 0; what < 3; what++) {
                Due.refused(x, -1, "ahead", 0, n, what);
            }
        }
        for (int what : new int[] {-1, 3, MAX, MIN}) {
            Due.refused(x, -1, "ahead", 0, 0, what);
        }
        for (int what = 0; what < 3; what++) {
            Due.refused(new ToffeeTown(), -1, "ahead", 0, 0, what);
        }
        Due.refused(empty(), -1, "ahead", 0, 0, 0);
    }

    private static void down() {
        Doc.promise(16, "DOWN; -2: at none of these;");
        ToffeeTown x = Due.made(TOWN, null);
        Due.answers(x, -2, "down", 1);
        Due.answers(x, 1, "down", 2);
        x.day();
        Due.answers(x, 1, "down", 2);
        x.day();
        Due.answers(x, 2, "down", 2);
    }

    private static void downRefused() {
        Doc.promise(16, "NONE without that HOUSE.");
        ToffeeTown x = Due.made(TOWN, null);
        for (int house : NO_HOUSE) {
            Due.refused(x, -1, "down", house);
        }
        Due.refused(empty(), -1, "down", 0);
        Due.refused(new ToffeeTown(), -1, "down", 0);
    }

    private static void part() {
        Doc.promise(17, "PART what 0: how many, 1: the side.");
        ToffeeTown x = Due.made(TOWN, null);
        Due.answers(x, 1, "part", 0, 1, 0);
        Due.answers(x, 1, "part", 0, 1, 1);
        Due.answers(x, 0, "part", 3, 2, 0);
        Due.answers(x, 8, "part", 3, 2, 1);
        Due.answers(x, 3, "part", 0, 2, 1);
    }

    private static void partRefused() {
        Doc.promise(17, "NONE without these (unlike).");
        ToffeeTown x = Due.made(TOWN, null);
        for (int house : NO_HOUSE) {
            Due.refused(x, -1, "part", house, 0, 0);
            Due.refused(x, -1, "part", 0, house, 1);
        }
        for (int house = 0; house < 4; house++) {
            Due.refused(x, -1, "part", house, house, 0);
            Due.refused(x, -1, "part", house, house, 1);
        }
        for (int what : NO_WHAT) {
            Due.refused(x, -1, "part", 0, 1, what);
        }
        Due.refused(new ToffeeTown(), -1, "part", 0, 1, 0);
    }

    private static void blocks() {
        Doc.promise(18, "BLOCKS what 0: how many, 1: the largest (0: there is none).");
        ToffeeTown x = Due.made(TOWN, null);
        Due.answers(x, 4, "blocks", 0);
        Due.answers(x, 1, "blocks", 1);
        Due.answers(empty(), 0, "blocks", 0);
        Due.answers(empty(), 0, "blocks", 1);
        x = Due.made("town 5 0 0;heat 9;house 4", null);
        x.day();
        Due.answers(x, 0, "blocks", 0);
        Due.answers(x, 0, "blocks", 1);
    }

    private static void blocksRefused() {
        Doc.promise(18, "NONE for others, or without a TOWN.");
        ToffeeTown x = Due.made(TOWN, null);
        for (int what : NO_WHAT) {
            Due.refused(x, -1, "blocks", what);
        }
        Due.refused(new ToffeeTown(), -1, "blocks", 0);
        Due.refused(new ToffeeTown(), -1, "blocks", 1);
    }

    private static void stay() {
        Doc.promise(19, "STAY; -2: by none;");
        ToffeeTown x = Due.made("town 10 0 0;heat 8;heat 9;house 0", null);
        Due.answers(x, 9, "stay", 0, 1);
        Due.answers(x, -2, "stay", 0, 2);
        Due.answers(x, -2, "stay", 0, 60);
    }

    private static void stayRefused() {
        Doc.promise(19, "NONE without these.");
        ToffeeTown x = Due.made(TOWN, null);
        for (int house : NO_HOUSE) {
            Due.refused(x, -1, "stay", house, 1);
        }
        for (int n : new int[] {0, -1, 61, MAX, MIN}) {
            Due.refused(x, -1, "stay", 0, n);
        }
        Due.refused(new ToffeeTown(), -1, "stay", 0, 1);
    }

    private static void iced() {
        Doc.promise(20, "ICED; -2: by none;");
        ToffeeTown x = Due.made("town 10 0 0;heat 4;house 8", null);
        Due.answers(x, 1, "iced", 1);
        Due.answers(x, -2, "iced", 2);
        Due.answers(x, -2, "iced", 60);
    }

    private static void icedRefused() {
        Doc.promise(20, "NONE without these, or a TOWN.");
        for (int n : new int[] {0, -1, 61, MAX, MIN}) {
            Due.refused(Due.made(TOWN, null), -1, "iced", n);
        }
        Due.refused(new ToffeeTown(), -1, "iced", 1);
        Due.answers(empty(), 0, "iced", 60);
    }

    private static void stood() {
        Doc.promise(21, "STOOD what 0: how many, 1: the least (-2: there is none).");
        ToffeeTown x = Due.made("town 10 0 0;heat 4;house 8", null);
        Due.answers(x, 4, "stood", 0, 10, 1, 0);
        Due.answers(x, 6, "stood", 0, 10, 1, 1);
        Due.answers(x, 0, "stood", 0, 3, 1, 0);
        Due.answers(x, -2, "stood", 0, 3, 1, 1);
        Due.answers(x, 1, "stood", 0, 4, 1, 0);
        Due.answers(x, 0, "stood", 0, 4, 1, 1);
    }

    private static void stoodRefused() {
        Doc.promise(21, "NONE without these.");
        ToffeeTown x = Due.made(TOWN, null);
        for (int house : NO_HOUSE) {
            Due.refused(x, -1, "stood", house, 0, 1, 0);
        }
        for (int place : new int[] {-1, 11, MAX, MIN}) {
            Due.refused(x, -1, "stood", 0, place, 1, 0);
        }
        for (int n : new int[] {0, -1, 31, MAX, MIN}) {
            Due.refused(x, -1, "stood", 0, 0, n, 0);
        }
        for (int what : NO_WHAT) {
            Due.refused(x, -1, "stood", 0, 0, 1, what);
        }
        Due.refused(new ToffeeTown(), -1, "stood", 0, 0, 1, 0);
    }

    private static void row() {
        Doc.promise(22, "ROW what 0: how much, 1 to 3: the two on that DAY, 8 times the one and the other (NONE: none; -2: there is no such DAY).");
        ToffeeTown x = Due.made("town 20 9 0;heat 3;house 9;house 0;house 5;rock 2 9;join 2 1 3;rock 0 9", null);
        int[][] want = {{14, 10, -2, -2}, {14, 10, -1, -2}, {14, 10, -1, -1}};
        for (int n = 1; n <= 3; n++) {
            for (int what = 0; what <= 3; what++) {
                Due.answers(x, want[n - 1][what], "row", n, what);
            }
        }
        for (int what = 0; what <= 3; what++) {
            Due.answers(empty(), what == 0 ? 0 : -1, "row", 3, what);
        }
    }

    private static void rowRefused() {
        Doc.promise(22, "-3 without these, or a TOWN.");
        ToffeeTown x = Due.made(TOWN, null);
        for (int n : new int[] {0, -1, 4, MAX, MIN}) {
            for (int what = 0; what <= 3; what++) {
                Due.refused(x, -3, "row", n, what);
            }
        }
        for (int what : new int[] {-1, 4, MAX, MIN}) {
            Due.refused(x, -3, "row", 1, what);
            Due.refused(x, -3, "row", 3, what);
        }
        for (int what = 0; what <= 3; what++) {
            Due.refused(new ToffeeTown(), -3, "row", 1, what);
        }
    }

    private static void order() {
        Doc.promise(23, "ORDER;");
        ToffeeTown x = Due.made(TOWN, null);
        int[] want = {2, 3, 0, 1};
        for (int house = 0; house < 4; house++) {
            Due.answers(x, want[house], "order", house);
        }
    }

    private static void orderRefused() {
        Doc.promise(23, "NONE without that HOUSE.");
        ToffeeTown x = Due.made(TOWN, null);
        for (int house : NO_HOUSE) {
            Due.refused(x, -1, "order", house);
        }
        Due.refused(empty(), -1, "order", 0);
        Due.refused(new ToffeeTown(), -1, "order", 0);
    }

    private static void rests() {
        Doc.promise(24, "RESTS what 0: how many, 1, 2: ROCKS of the first (-2: there is none).");
        ToffeeTown x = Due.made("town 30 0 0;heat 3;house 0;house 10;join 0 1 9", null);
        Due.answers(x, 2, "rests", 0, 1, 2, 0);
        Due.answers(x, 0, "rests", 0, 1, 2, 1);
        Due.answers(x, 4, "rests", 0, 1, 2, 2);
        // HOUSE 0 does best to run into the BLOCK of HOUSE 1, if that has ROCK 6, and else to have ROCK 6 itself;
        // HOUSE 1 does best without ROCK, if HOUSE 0 makes its BLOCK heavier, and else with ROCK 6
        x = Due.made("town 11 0 7;heat 1;heat 1;heat 4;house 6;house 4;house 8;join 1 2 8", null);
        Due.answers(x, 0, "rests", 0, 1, 4, 0);
        Due.answers(x, -2, "rests", 0, 1, 4, 1);
        Due.answers(x, -2, "rests", 0, 1, 4, 2);
        Due.due("a DAY less is not enough", x.rests(0, 1, 3, 0) > 0 ? 1 : 0, 1);
    }

    private static void restsRefused() {
        Doc.promise(24, "NONE without these (unlike).");
        ToffeeTown x = Due.made(TOWN, null);
        for (int house : NO_HOUSE) {
            Due.refused(x, -1, "rests", house, 0, 1, 0);
            Due.refused(x, -1, "rests", 0, house, 1, 0);
        }
        for (int house = 0; house < 4; house++) {
            Due.refused(x, -1, "rests", house, house, 1, 0);
        }
        for (int n : new int[] {0, -1, 21, MAX, MIN}) {
            Due.refused(x, -1, "rests", 0, 1, n, 0);
        }
        for (int what : new int[] {-1, 3, MAX, MIN}) {
            Due.refused(x, -1, "rests", 0, 1, 1, what);
        }
        Due.refused(new ToffeeTown(), -1, "rests", 0, 1, 1, 0);
    }

    private static void parts() {
        Doc.promise(25, "PARTS;");
        ToffeeTown x = Due.made(TOWN, null);
        int[] want = {2500, 7499, 0, 0};
        for (int house = 0; house < 4; house++) {
            Due.answers(x, want[house], "parts", 9999, house);
            Due.answers(x, 0, "parts", 0, house);
        }
    }

    private static void partsRefused() {
        Doc.promise(25, "NONE without these.");
        ToffeeTown x = Due.made(TOWN, null);
        for (int house : NO_HOUSE) {
            Due.refused(x, -1, "parts", 1, house);
        }
        for (int treacle : new int[] {-1, 10000, MAX, MIN}) {
            Due.refused(x, -1, "parts", treacle, 0);
        }
        Due.refused(empty(), -1, "parts", 1, 0);
        Due.refused(new ToffeeTown(), -1, "parts", 1, 0);
    }

    private static void note() {
        Doc.promise(26, "A NOTE (n NONE: there are none then, 0): how many;");
        ToffeeTown x = Due.made(TOWN, null);
        for (int many = 1; many <= 10; many++) {
            Due.answers(x, many, "note", 0, 0, 0);
            Due.answers(x, many, "count", 12);
        }
        // Of NONE no HOUSE and no PLACE is looked at
        Due.answers(x, 0, "note", -1, MIN, MAX);
        Due.answers(x, 0, "count", 12);
        Due.answers(x, 0, "note", -1, 0, 0);
        Due.answers(new ToffeeTown(), 0, "note", -1, 0, 0);
        Due.answers(x, 1, "note", 60, 3, 10);
    }

    private static void noteRefused() {
        Doc.promise(26, "-2, and nothing happens, without these (a PLACE 0 to HILL), or if there are 10.");
        ToffeeTown x = Due.made(TOWN, null);
        x.note(5, 0, 0);
        for (int n : new int[] {-2, 61, MAX, MIN}) {
            Due.refused(x, -2, "note", n, 0, 0);
        }
        for (int house : NO_HOUSE) {
            Due.refused(x, -2, "note", 0, house, 0);
        }
        for (int place : new int[] {-1, 11, MAX, MIN}) {
            Due.refused(x, -2, "note", 0, 0, place);
        }
        for (int many = 2; many <= 10; many++) {
            Due.answers(x, many, "note", 0, 0, 10);
        }
        Due.refused(x, -2, "note", 0, 0, 0);
        Due.refused(x, -2, "note", 61, 0, 0);
        Due.refused(new ToffeeTown(), -2, "note", 0, 0, 0);
        Due.refused(empty(), -2, "note", 0, 0, 0);
    }

    private static void ruled() {
        Doc.promise(27, "RULED what 0: how many, 1: the first (NONE: none; -2: there is none such).");
        ToffeeTown x = Due.made("town 20 9 0;heat 3;house 0;house 5;join 0 1 3;rock 1 9", "pour 1");
        Due.answers(x, 2, "ruled", 0);
        Due.answers(x, -1, "ruled", 1);
        x.note(1, 0, 0);
        Due.answers(x, 1, "ruled", 0);
        Due.answers(x, 0, "ruled", 1);
        x.note(1, 0, 3);
        Due.answers(x, 0, "ruled", 0);
        Due.answers(x, -2, "ruled", 1);
        Due.answers(empty(), 1, "ruled", 0);
        Due.answers(empty(), -1, "ruled", 1);
    }

    private static void ruledRefused() {
        Doc.promise(27, "-3 for others, or without a TOWN.");
        ToffeeTown x = Due.made(TOWN, null);
        for (int what : NO_WHAT) {
            Due.refused(x, -3, "ruled", what);
        }
        Due.refused(new ToffeeTown(), -3, "ruled", 0);
        Due.refused(new ToffeeTown(), -3, "ruled", 1);
    }

    private static void look() {
        Doc.promise(28, "LOOK (n 0 to 60) what 0: the HOUSE, 1: how many; -2: no RULE is so, or there are no HOUSES.");
        ToffeeTown x = Due.made("town 20 9 0;heat 3;house 19;house 0;house 5;join 1 2 3;rock 2 9", "pour 1");
        Due.answers(x, 0, "look", 0, 0);
        Due.answers(x, 2, "look", 0, 1);
        Due.answers(x, 1, "look", 60, 0);
        Due.answers(x, 1, "look", 60, 1);
        x.note(0, 0, 0);
        Due.answers(x, -2, "look", 0, 0);
        Due.answers(x, -2, "look", 60, 1);
        Due.answers(empty(), -2, "look", 0, 0);
        Due.answers(empty(), -2, "look", 60, 1);
        x = Due.made("town 20 9 0;house 19", null);
        Due.due("by no RULE is so, too", x.look(0, 1), 1);
    }

    private static void lookRefused() {
        Doc.promise(28, "NONE without these, or a TOWN.");
        for (int n : new int[] {-1, 61, MAX, MIN}) {
            Due.refused(Due.made(TOWN, null), -1, "look", n, 0);
            Due.refused(empty(), -1, "look", n, 1);
        }
        for (int what : NO_WHAT) {
            Due.refused(Due.made(TOWN, null), -1, "look", 0, what);
            Due.refused(empty(), -1, "look", 0, what);
        }
        Due.refused(new ToffeeTown(), -1, "look", 0, 0);
    }

    private static void seed() {
        Doc.promise(29, "x becomes a number: what it was;");
        ToffeeTown x = new ToffeeTown();
        Due.answers(x, 0, "seed", MAX);
        Due.answers(x, MAX, "seed", 1);
        Due.answers(x, 1, "seed", 0);
        Due.answers(x, 0, "seed", 0);
    }

    private static void seedRefused() {
        Doc.promise(29, "NONE, and nothing happens, below 0.");
        ToffeeTown x = new ToffeeTown();
        x.seed(9);
        Due.refused(x, -1, "seed", -1);
        Due.refused(x, -1, "seed", MIN);
        Due.answers(x, 9, "count", 14);
    }

    private static void summers() {
        Doc.promise(30, "SUMMERS what 0: how many, 1: PLACES.");
        ToffeeTown x = Due.made(TOWN, null);
        Due.answers(x, 2, "summers", 1, 1, 0, 0);
        Due.answers(x, 4 + 3 + 10 + 10, "summers", 1, 1, 0, 1);
        Due.answers(x, 30, "summers", 10, 60, 0, 0);
        Due.answers(empty(), 0, "summers", 10, 60, 100, 0);
        Due.answers(empty(), 0, "summers", 10, 60, 100, 1);
    }

    private static void summersRefused() {
        Doc.promise(30, "NONE without these, or a TOWN.");
        ToffeeTown x = Due.made(TOWN, null);
        for (int m : new int[] {0, -1, 11, MAX, MIN}) {
            Due.refused(x, -1, "summers", m, 1, 0, 0);
        }
        for (int n : new int[] {0, -1, 61, MAX, MIN}) {
            Due.refused(x, -1, "summers", 1, n, 0, 0);
        }
        for (int p : new int[] {-1, 101, MAX, MIN}) {
            Due.refused(x, -1, "summers", 1, 1, p, 0);
        }
        for (int what : NO_WHAT) {
            Due.refused(x, -1, "summers", 1, 1, 0, what);
        }
        Due.refused(new ToffeeTown(), -1, "summers", 1, 1, 0, 0);
    }

    private static void count() {
        Doc.promise(31, "What 0: HILL, 1: STICK, 2: heats told, 3: HOUSES, 4: RULES, 5: the RULE IN FORCE (NONE), 6: DAY, 7: HEAT of this DAY,"
                + " 8: SUGAR, 9: for how many DAYS there is ice, 10: HOUSES in the RIVER, as bits, 11: PLACES of all, together, 12: NOTES,"
                + " 13: ACTS that can be UNDONE, 14: x, 15: bytes of the TAPE.");
        ToffeeTown x = Due.made("town 60 99 9" + Due.times(";heat 9", 12) + Due.times(";house 59", 6) + ";rock 0 8", null);
        for (int rule = 0; rule < 6; rule++) {
            Due.rule(x, "pour 1");
        }
        counts(x, 60, 9, 12, 6, 6, -1, 0, 9, 99, 0, 0, 354, 0, 0, 0, 0);
        x.force(5);
        x.ice(9);
        x.seed(MAX);
        for (int note = 0; note < 10; note++) {
            x.note(0, 0, 59);
        }
        for (int day = 0; day < 19; day++) {
            x.day();
        }
        for (int fed = 0; fed < 20; fed++) {
            x.feed(0, 0, 0, 0, 0);
        }
        counts(x, 60, 9, 12, 6, 6, 5, 19, 9, 99, 0, 63, 360, 10, 20, MAX, 400);
    }

    private static void counts(ToffeeTown x, int... want) {
        for (int what = 0; what < want.length; what++) {
            Due.answers(x, want[what], "count", what);
        }
    }

    private static void countRefused() {
        Doc.promise(31, "NONE for others.");
        for (int what : new int[] {-1, 16, MAX, MIN}) {
            Due.refused(Due.made(TOWN, null), -1, "count", what);
            Due.refused(new ToffeeTown(), -1, "count", what);
        }
    }

    private static void image() {
        Doc.promise(32, "An IMAGE is made: the DAY;");
        ToffeeTown x = new ToffeeTown();
        Due.due("without a TOWN", x.image(3), 0);
        Due.town(x, TOWN);
        Due.answers(x, 0, "image", 0);
        x.day();
        Due.answers(x, 1, "image", 0);
        x.day();
        Due.due("in place of the one there was", x.back(0), 1);
        Due.answers(x, 1, "count", 6);
        Due.due("without a TOWN", x.back(3), 0);
        Due.refused(x, -1, "day");
    }

    private static void imageRefused() {
        Doc.promise(32, "NONE without it.");
        ToffeeTown x = Due.made(TOWN, null);
        for (int k = 0; k < 4; k++) {
            x.day();
            x.image(k);
        }
        x.day();
        for (int k : new int[] {-1, 4, 5, MAX, MIN}) {
            Due.refused(x, -1, "image", k);
        }
        for (int k = 0; k < 4; k++) {
            Due.due("the IMAGE " + k, x.back(k), k + 1);
        }
    }

    private static void back() {
        Doc.promise(33, "All is as in an IMAGE: the DAY;");
        ToffeeTown x = Due.made(TOWN, "pour 1");
        x.note(1, 2, 10);
        x.seed(4);
        String begin = Due.seen(x);
        x.day();
        x.ice(2);
        String was = Due.seen(x);
        x.image(1);
        Due.due("at once", x.back(1), 1);
        Due.due("as it was", Due.seen(x).equals(was) ? 1 : 0, 1);
        x.undo();
        x.crack(0, 1);
        x.force(-1);
        x.seed(0);
        // NOTES that are not so, by the DAY, by the HOUSE or by the PLACE
        for (int[] note : new int[][] {{0, 2, 10}, {1, 1, 10}, {1, 2, 9}}) {
            x.note(-1, 0, 0);
            Due.answers(x, 1, "note", note);
            Due.answers(x, 0, "ruled", 0);
            Due.answers(x, 1, "back", 1);
            Due.due("as it was", Due.seen(x).equals(was) ? 1 : 0, 1);
        }
        Due.town(x, "town 60 1 1;heat 1" + Due.times(";house 5", 6) + ";join 4 5 9;rock 5 9");
        x.day();
        Due.answers(x, 1, "back", 1);
        Due.due("as it was", Due.seen(x).equals(was) ? 1 : 0, 1);
        Due.answers(x, 1, "undo");
        Due.answers(x, 0, "undo");
        Due.due("what is UNDONE is as it was", Due.seen(x).equals(begin) ? 1 : 0, 1);
    }

    private static void backRefused() {
        Doc.promise(33, "NONE, and nothing happens, if it was never made, or without it.");
        ToffeeTown x = Due.made(TOWN, null);
        x.day();
        for (int k = 0; k < 4; k++) {
            Due.refused(x, -1, "back", k);
        }
        x.image(2);
        x.day();
        for (int k : new int[] {0, 1, 3, -1, 4, MAX, MIN}) {
            Due.refused(x, -1, "back", k);
        }
        Due.answers(x, 1, "back", 2);
        Due.refused(new ToffeeTown(), -1, "back", 0);
    }
}
