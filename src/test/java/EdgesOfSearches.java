/** Terms III: the edges of STAY, ICED, STOOD, ROW, RESTS, NOTES, RULED, LOOK, DRAWS, SUMMERS and IMAGES. */
final class EdgesOfSearches {
    private EdgesOfSearches() {
    }

    static void all() {
        stay();
        iced();
        stood();
        leastPlace();
        row();
        firstRow();
        twos();
        rests();
        firstRest();
        notes();
        ruled();
        firstRule();
        look();
        howMany();
        firstX();
        draws();
        oneDraw();
        summers();
        belowP();
        allTogether();
        images();
        goneBack();
    }

    private static void stay() {
        Doc.terms("STAY of a HOUSE for n DAYS (1 to 60): the least ROCK, 0 to 9, in place of what it has now (it takes nothing),"
                + " by which its PLACE is what it is now behind all of these.");
        ToffeeTown x = Due.made("town 60 0 0;heat 0;heat 2;heat 8;heat 9;house 1;house 9;rock 0 9;join 0 1 9", null);
        Due.refused(x, -1, "stay", 0, 0);
        Due.answers(x, 0, "stay", 0, 1);
        Due.due("less than it has", x.stay(0, 2), 3);
        Due.due("9 at most", x.stay(0, 3), 9);
        Due.due("by none", x.stay(0, 4), -2);
        Due.due("by none", x.stay(0, 60), -2);
        Due.refused(x, -1, "stay", 0, 61);
        Due.due("held by another", x.stay(1, 3), 0);
        x = Due.made("town 60 0 0;heat 8;house 1", null);
        Due.answers(x, 9, "stay", 0, 60);
        x = Due.made("town 60 0 0;house 1", null);
        Due.due("at HEAT 0", x.stay(0, 60), 0);
        x = Due.made("town 5 0 0;heat 9;house 4", null);
        x.day();
        Due.due("in the RIVER it is", x.stay(0, 60), 0);
    }

    private static void iced() {
        Doc.terms("ICED for n DAYS (1 to 60): the fewest DAYS of ice from now, 0 to 9, in place of what it is,"
                + " by which no HOUSE that is not in the RIVER now is in it then.");
        ToffeeTown x = Due.made("town 60 0 0;heat 1;house 0", null);
        Due.refused(x, -1, "iced", 0);
        Due.answers(x, 0, "iced", 1);
        Due.answers(x, 0, "iced", 59);
        Due.answers(x, 1, "iced", 60);
        Due.refused(x, -1, "iced", 61);
        x = Due.made("town 10 0 0;heat 3;house 9", null);
        x.ice(9);
        for (int n = 1; n <= 9; n++) {
            Due.answers(x, n, "iced", n);
        }
        Due.due("9 at most", x.iced(10), -2);
        x = Due.made("town 10 0 0;heat 3;house 9;house 0", null);
        x.day();
        Due.due("who is in the RIVER now", x.iced(2), 0);
        Due.due("no HOUSES", Due.made("town 10 0 0;heat 9", null).iced(60), 0);
    }

    private static void stood() {
        Doc.terms("STOOD of a HOUSE for a PLACE (0 to HILL) and n DAYS (1 to 30): PLACES 0 to HILL - 1 on which it can stand now,"
                + " in place of where it does, all else as it is, so that it is there behind these: how many;");
        ToffeeTown x = Due.made("town 60 0 0;heat 1;house 5;house 40;rock 1 9", null);
        Due.refused(x, -1, "stood", 0, 30, 0, 0);
        Due.refused(x, -1, "stood", 0, 30, 31, 0);
        Due.refused(x, -1, "stood", 0, -1, 1, 0);
        Due.refused(x, -1, "stood", 0, 61, 1, 0);
        Due.answers(x, 0, "stood", 0, 0, 1, 0);
        Due.answers(x, 1, "stood", 0, 1, 1, 0);
        Due.answers(x, 1, "stood", 0, 59, 1, 0);
        Due.due("in the RIVER, from HILL - 1", x.stood(0, 60, 1, 0), 1);
        Due.due("in the RIVER, from 30 PLACES", x.stood(0, 60, 30, 0), 30);
        Due.answers(x, 1, "stood", 0, 30, 30, 0);
        Due.answers(x, 0, "stood", 0, 29, 30, 0);
        Due.due("where it does", x.stood(1, 40, 30, 0), 1);
        Due.due("on another", x.stood(1, 0, 30, 0), 1);
        Due.due("on another", x.stood(1, 59, 30, 0), 1);
        Due.due("never in the RIVER", x.stood(1, 60, 30, 0), 0);
        x = Due.made("town 60 0 5;heat 1;house 5;house 40;rock 1 9", null);
        Due.due("on its way and stuck", x.stood(0, 40, 30, 0), 30);
        x = Due.made("town 5 0 0;heat 1;house 4", null);
        x.day();
        Due.due("from the RIVER to the hill", x.stood(0, 3, 3, 0), 1);
        x = Due.made("town 5 0 0;house 4", null);
        Due.due("at HEAT 0", x.stood(0, 0, 30, 0), 1);
        Due.due("at HEAT 0", x.stood(0, 5, 30, 0), 0);
    }

    private static void leastPlace() {
        Doc.terms("behind these: how many; the least.");
        ToffeeTown x = Due.made("town 60 0 5;heat 1;house 5;house 40;rock 1 9", null);
        Due.answers(x, 0, "stood", 0, 1, 1, 1);
        Due.answers(x, 59, "stood", 0, 60, 1, 1);
        // Who stands above PLACE 40 sticks there, who stands on it goes on
        Due.answers(x, 40, "stood", 0, 60, 30, 1);
        Due.answers(x, 10, "stood", 0, 40, 30, 1);
        Due.due("there is none", x.stood(0, 0, 1, 1), -2);
    }

    private static void rows(ToffeeTown x, int n, int... want) {
        for (int what = 0; what < 4; what++) {
            Due.answers(x, want[what], "row", n, what);
        }
    }

    private static void row() {
        Doc.terms("ROW for n DAYS (1 to 3): which two with a pour of HARD below 9 are hardened on each of these, while there is SUGAR,"
                + " any, or none, in place of what the RULE says, so that PLACES of all are least, together, behind these;");
        String town = ";heat 3;house 0;house 5;rock 1 9;join 0 1 ";
        ToffeeTown x = Due.made("town 20 2 0" + town + "3", "pour 0");
        rows(x, 1, 5, 1, -2, -2);
        rows(x, 2, 5, 1, -1, -2);
        rows(x, 3, 5, 1, -1, -1);
        Due.refused(x, -3, "row", 0, 0);
        Due.refused(x, -3, "row", 4, 0);
        x = Due.made("town 20 0 0" + town + "3", "pour 1");
        Due.due("without SUGAR", x.row(1, 0), 8);
        Due.due("without SUGAR", x.row(1, 1), -1);
        x = Due.made("town 20 1 0" + town + "2", "pour 1");
        Due.due("SUGAR for one alone", x.row(2, 0), 11);
        x = Due.made("town 20 2 0" + town + "2", "pour 1");
        rows(x, 2, 8, 1, 1, -2);
        x = Due.made("town 20 3 0" + town + "1", null);
        rows(x, 3, 11, 1, 1, 1);
        x = Due.made("town 20 2 0" + town + "1", null);
        rows(x, 3, 14, -1, -1, -1);
        x = Due.made("town 20 9 0;heat 8;house 0;house 5;rock 1 9;join 0 1 8", null);
        Due.due("from 8 to 9", x.row(1, 1), 1);
        x = Due.made("town 30 9 0;heat 9;house 0;house 5;rock 1 9;join 0 1 9", null);
        Due.due("9 is no harder", x.row(1, 1), -1);
        Due.due("9 is no harder", x.row(1, 0), 23);
        x = Due.made("town 20 9 0;heat 3;house 0;house 5;rock 1 9", null);
        Due.due("no pour", x.row(3, 0), 14);
        Due.due("no pour", x.row(3, 1), -1);
        Due.due("no HOUSES", Due.made("town 20 9 0;heat 3", null).row(3, 0), 0);
    }

    private static void firstRow() {
        Doc.terms("of several the first row (none ahead of all, then by the least one, then the least other): how much;");
        ToffeeTown x = Due.made("town 60 9 0;heat 3;house 0;house 5;house 9;house 30;rock 1 9;rock 2 9;join 0 2 3;join 0 1 3;join 3 1 3", null);
        rows(x, 1, 47, 1, -2, -2);
        rows(x, 2, 47, 1, 11, -2);
        rows(x, 3, 47, 1, 11, -1);
        // What is hardened to no end is not
        x = Due.made("town 60 9 0;house 0;house 5;join 0 1 3", null);
        rows(x, 3, 5, -1, -1, -1);
        // HEAT comes on the last DAY: none on the first two
        x = Due.made("town 60 9 0;heat 0;heat 0;heat 3;house 0;house 5;rock 1 9;join 0 1 3", null);
        rows(x, 3, 5, -1, -1, 1);
        x = Due.made("town 60 9 0;heat 0;heat 0;heat 3;house 0;house 5;rock 1 9;join 0 1 2", null);
        rows(x, 3, 5, -1, 1, 1);
    }

    private static void twos() {
        Doc.terms("the twos.");
        StringBuilder town = new StringBuilder("town 60 9 0;heat 3" + Due.times(";house 0", 6) + ";rock 5 9;rock 0 9;rock 1 9;rock 2 9;rock 3 9");
        ToffeeTown x = Due.made(town + ";join 5 4 3", null);
        rows(x, 1, 0, 8 * 4 + 5, -2, -2);
        x = Due.made(town + ";join 4 0 3", null);
        rows(x, 1, 0, 4, -2, -2);
    }

    private static void rested(ToffeeTown x, int one, int other, int n, int... want) {
        for (int what = 0; what < 3; what++) {
            Due.answers(x, want[what], "rests", one, other, n, what);
        }
    }

    private static void rests() {
        Doc.terms("RESTS of two HOUSES for n DAYS (1 to 20): each has a ROCK of 0, 2, 4, 6 or 8 from now on (it takes nothing):"
                + " each has PLACE then, and half of that, as a loss: twos of which neither would have less by another one: how many;");
        ToffeeTown x = Due.made("town 60 0 0;heat 1;house 0;house 10;rock 0 9", null);
        Due.refused(x, -1, "rests", 0, 1, 0, 0);
        Due.refused(x, -1, "rests", 0, 1, 21, 0);
        // A ROCK of 2 costs 1, as much as a DAY of HEAT 1 does: each may do either
        rested(x, 0, 1, 1, 4, 0, 0);
        rested(x, 0, 1, 2, 1, 2, 2);
        rested(x, 0, 1, 20, 1, 2, 2);
        // ROCK 8 holds by HEAT 7, and by no more
        x = Due.made("town 60 0 0;heat 7;house 0;house 10", null);
        rested(x, 0, 1, 1, 1, 8, 8);
        x = Due.made("town 60 0 0;heat 8;house 0;house 10", null);
        rested(x, 0, 1, 1, 1, 0, 0);
        // 20 DAYS and no more: HEAT 4 comes to 80 PLACES, ROCK 6 saves all of them
        x = Due.made("town 60 0 0;heat 4;house 0;house 0", null);
        rested(x, 0, 1, 20, 1, 6, 6);
        // At HEAT 0 no ROCK is worth what it costs
        x = Due.made("town 60 0 0;house 0;house 10;rock 0 9", null);
        rested(x, 0, 1, 20, 1, 0, 0);
    }

    private static void firstRest() {
        Doc.terms("the first (by the first one, then the second one).");
        // One of two that hold to one another has to pay for both
        ToffeeTown x = Due.made("town 30 0 0;heat 3;house 0;house 10;join 0 1 9", null);
        rested(x, 0, 1, 2, 2, 0, 4);
        rested(x, 1, 0, 2, 2, 0, 4);
        // HEAT 2 by ROCK 4: as dear as what it saves, for either: ROCK 0 is first
        x = Due.made("town 30 0 0;heat 2;house 0;house 10", null);
        rested(x, 0, 1, 1, 4, 0, 0);
    }

    private static void notes() {
        Doc.terms("NOTES 0 to 9, told: at the begin of the n-th DAY of all (0 to 60) a HOUSE was at a PLACE.");
        ToffeeTown x = Due.made("town 60 9 0;heat 1;house 0", null);
        for (int note = 0; note < 10; note++) {
            Due.answers(x, note + 1, "note", note * 6, 0, note * 6);
        }
        Due.refused(x, -2, "note", 0, 0, 0);
        Due.answers(x, 1, "ruled", 0);
        Due.answers(x, 0, "note", -1, 0, 0);
        Due.refused(x, -2, "note", 61, 0, 60);
        Due.due("the begin of DAY 60", x.note(60, 0, 60), 1);
        Due.answers(x, 1, "ruled", 0);
        Due.due("the begin of DAY 59", x.note(59, 0, 60), 2);
        Due.answers(x, 0, "ruled", 0);
        x.note(-1, 0, 0);
        Due.due("the begin of DAY 0", x.note(0, 0, 0), 1);
        Due.answers(x, 1, "ruled", 0);
        x.note(0, 0, 1);
        Due.answers(x, 0, "ruled", 0);
        // Of all DAYS, not from now
        x.note(-1, 0, 0);
        x.day();
        x.note(0, 0, 0);
        Due.answers(x, 1, "ruled", 0);
    }

    private static final String PARTED = "town 20 9 0;heat 3;house 0;house 5;house 10;join 0 1 3;join 1 2 3;rock 1 9";

    /** None, and RULES that harden the first pour, the second one, and none. */
    private static ToffeeTown parted() {
        ToffeeTown x = Due.made(PARTED, "pour 1 if one=0");
        Due.rule(x, "pour 1 if one=1");
        Due.rule(x, "pour 0");
        return x;
    }

    private static void ruled() {
        Doc.terms("RULED: which of the RULES, and of none, so that from the begin on, all as the text told it, all NOTES are so: how many;");
        ToffeeTown x = parted();
        Due.due("without NOTES", x.ruled(0), 4);
        x.day();
        x.crack(0, 1);
        x.ice(9);
        x.rock(0, 9);
        x.force(2);
        Due.due("without NOTES", x.ruled(0), 4);
        x.note(1, 2, 13);
        Due.answers(x, 3, "ruled", 0);
        x.note(1, 0, 0);
        Due.answers(x, 1, "ruled", 0);
        x.note(1, 1, 6);
        Due.answers(x, 0, "ruled", 0);
        x = Due.made("town 5 0 0", null);
        Due.due("of none alone", x.ruled(0), 1);
        for (int rule = 0; rule < 6; rule++) {
            Due.rule(x, "pour 1");
        }
        Due.due("six RULES, and none", x.ruled(0), 7);
    }

    private static void firstRule() {
        Doc.terms("the first (none ahead of 0, told as NONE).");
        ToffeeTown x = parted();
        Due.answers(x, -1, "ruled", 1);
        x.note(1, 0, 0);
        Due.answers(x, 0, "ruled", 1);
        x.note(-1, 0, 0);
        x.note(1, 2, 10);
        Due.answers(x, 1, "ruled", 1);
        x.note(1, 2, 13);
        Due.answers(x, -2, "ruled", 1);
    }

    private static void look() {
        Doc.terms("LOOK at the begin of the n-th DAY: the HOUSE by whose PLACE these part best: the most alike are fewest, of several the least;");
        ToffeeTown x = parted();
        Due.due("all alike on DAY 0", x.look(0, 0), 0);
        Due.due("HOUSES 0 and 2 part as well", x.look(1, 0), 0);
        Due.due("on DAY 60", x.look(60, 0), 0);
        x.note(1, 0, 3);
        Due.due("HOUSE 2 alone parts", x.look(1, 0), 2);
        Due.due("all alike on DAY 0", x.look(0, 0), 0);
        Due.refused(x, -1, "look", -1, 0);
        Due.refused(x, -1, "look", 61, 0);
        // A LOOK ahead of the last NOTE, and behind it
        x.note(9, 1, 5);
        Due.answers(x, 2, "look", 1, 0);
        Due.answers(x, 2, "look", 12, 0);
    }

    private static void howMany() {
        Doc.terms("of several the least; how many.");
        ToffeeTown x = parted();
        Due.answers(x, 4, "look", 0, 1);
        Due.answers(x, 3, "look", 1, 1);
        x.note(1, 0, 3);
        Due.answers(x, 3, "look", 0, 1);
        Due.answers(x, 2, "look", 1, 1);
        x.note(1, 2, 10);
        Due.answers(x, 1, "look", 1, 1);
        // Those that are alike need not be the first
        x = Due.made("town 20 9 0;heat 3" + Due.times(";house 0", 5) + ";house 5;join 0 5 3;rock 5 9", "pour 1");
        Due.answers(x, 1, "look", 1, 1);
        Due.rule(x, "pour 2");
        Due.answers(x, 2, "look", 1, 1);
        Due.rule(x, "pour 3");
        Due.answers(x, 3, "look", 1, 1);
        Due.answers(x, 0, "look", 1, 0);
        // Six RULES, and none, of six HOUSES: three RULES harden the pour of the last one
        x = Due.made("town 20 9 0;heat 3" + Due.times(";house 0", 6) + ";rock 0 9;join 5 0 3", "pour 0");
        for (int rule = 1; rule < 6; rule++) {
            Due.rule(x, "pour " + rule / 3);
        }
        Due.answers(x, 7, "ruled", 0);
        Due.answers(x, 5, "look", 1, 0);
        Due.answers(x, 4, "look", 1, 1);
    }

    /** What DRAWS make of one HOUSE without a pour that goes down by each DAY's HEAT, on a HILL of 60 and told HEAT 0. */
    private static int drawn(long x, int m, int n, int p, boolean rivers) {
        int sum = 0;
        for (int summer = 0; summer < m; summer++) {
            int place = 0;
            for (int day = 0; day < n; day++) {
                x = (x * 1103515245L + 12345L) % 2147483648L;
                if (x / 65536 % 100 < p) {
                    x = (x * 1103515245L + 12345L) % 2147483648L;
                    place = Math.min(60, place + (int) (x / 65536 % 10));
                }
            }
            sum += rivers ? place / 60 : place;
        }
        return sum;
    }

    private static void firstX() {
        Doc.terms("DRAWS: x (0 to 2147483647; 0 at first)");
        ToffeeTown x = Due.made("town 60 0 0;house 0", null);
        Due.answers(x, 0, "count", 14);
        Due.answers(x, drawn(0, 10, 9, 100, false), "summers", 10, 9, 100, 1);
        Due.refused(x, -1, "seed", -1);
        Due.answers(x, 0, "seed", 2147483647);
        Due.answers(x, 2147483647, "count", 14);
        Due.answers(x, drawn(2147483647, 10, 9, 100, false), "summers", 10, 9, 100, 1);
        Due.answers(x, 2147483647, "seed", 0);
        Due.answers(x, 0, "count", 14);
    }

    private static void draws() {
        Doc.terms("becomes x * 1103515245 + 12345, of 2147483648 the rest;");
        ToffeeTown x = Due.made("town 60 0 0;house 0", null);
        for (int seed : new int[] {0, 1, 2, 65535, 65536, 1103515245, 1073741823, 1073741824, 2147483646, 2147483647}) {
            x.seed(seed);
            Due.due("x " + seed + ", 1 DAY", x.summers(1, 1, 100, 1), drawn(seed, 1, 1, 100, false));
            Due.due("x " + seed + ", 9 DAYS", x.summers(1, 9, 100, 1), drawn(seed, 1, 9, 100, false));
        }
    }

    private static void oneDraw() {
        Doc.terms("a DRAW is x / 65536.");
        ToffeeTown x = Due.made("town 60 0 0;house 0", null);
        // From 0 the first two are 12345 / 65536 and 1406932606 / 65536: 0, and 21468, which is 8 of 10
        Due.answers(x, 8, "summers", 1, 1, 1, 1);
        Due.answers(x, 0, "summers", 1, 1, 0, 1);
    }

    private static void summers() {
        Doc.terms("SUMMERS m times (1 to 10) n DAYS (1 to 60) from now on: ahead of each a DRAW mod 100;");
        ToffeeTown x = Due.made("town 60 0 0;house 0", null);
        x.seed(7);
        Due.refused(x, -1, "summers", 0, 1, 50, 1);
        Due.refused(x, -1, "summers", 11, 1, 50, 1);
        Due.refused(x, -1, "summers", 1, 0, 50, 1);
        Due.refused(x, -1, "summers", 1, 61, 50, 1);
        for (int m : new int[] {1, 2, 9, 10}) {
            for (int n : new int[] {1, 2, 59, 60}) {
                Due.answers(x, drawn(7, m, n, 10, false), "summers", m, n, 10, 1);
            }
        }
        x = Due.made("town 60 0 0;heat 1;house 0", null);
        x.day();
        Due.due("from now on", x.summers(1, 60, 0, 1), 60);
        Due.due("from now on", x.summers(1, 58, 0, 1), 59);
    }

    private static void belowP() {
        Doc.terms("is it below p (0 to 100), a DRAW mod 10: that is HEAT of this DAY, ice or none: how many are in the RIVER at the end;");
        ToffeeTown x = Due.made("town 60 0 0;house 0", null);
        Due.refused(x, -1, "summers", 1, 1, -1, 1);
        Due.refused(x, -1, "summers", 1, 1, 101, 1);
        // From 3 the first DRAW is 3310558080 / 65536: 50515 less 32768, so 47 of 100; the second has 6 of 10
        x.seed(3);
        int first = (int) ((3 * 1103515245L + 12345L) % 2147483648L / 65536 % 100);
        int place = drawn(3, 1, 1, 100, false);
        Due.due("a HEAT to be seen", place > 0 ? 1 : 0, 1);
        Due.due("as much as p", x.summers(1, 1, first, 1), 0);
        Due.due("below p", x.summers(1, 1, first + 1, 1), place);
        Due.due("p 100", x.summers(1, 1, 100, 1), place);
        Due.due("p 0", x.summers(1, 1, 0, 1), 0);
        x.ice(9);
        Due.due("on ice", x.summers(1, 1, 100, 1), place);
        Due.due("in the RIVER", x.summers(10, 60, 100, 0), drawn(3, 10, 60, 100, true));
        Due.due("in the RIVER", x.summers(10, 60, 20, 0), drawn(3, 10, 60, 20, true));
        Due.due("in the RIVER", x.summers(1, 1, 100, 0), 0);
        // The HEAT told counts where none is drawn, on ice 3 less
        x = Due.made("town 60 0 0;heat 5;house 0", null);
        x.ice(1);
        Due.due("on ice, none drawn", x.summers(1, 2, 0, 1), 7);
        // A RULE sees the HEAT drawn
        x = Due.made("town 60 9 0;house 0;house 50;join 0 1 1;rock 1 9", "pour 1 if heat=" + place);
        x.seed(3);
        Due.due("a HEAT drawn melts the pour", x.summers(1, 1, 100, 1), place > 1 ? 50 + place : 50);
    }

    private static void allTogether() {
        Doc.terms("PLACES of all then, all together (x as it was).");
        ToffeeTown x = Due.made("town 60 0 0;heat 1;house 0;house 9;house 59;rock 1 9", null);
        x.seed(5);
        Due.answers(x, 1 + 9 + 60, "summers", 1, 1, 0, 1);
        Due.answers(x, 10 * (1 + 9 + 60), "summers", 10, 1, 0, 1);
        Due.answers(x, 10, "summers", 10, 1, 0, 0);
        x.summers(10, 60, 100, 0);
        Due.answers(x, 5, "count", 14);
        Due.due("no HOUSES", Due.made("town 60 0 0;heat 1", null).summers(10, 60, 100, 1), 0);
    }

    private static void images() {
        Doc.terms("IMAGES 0 to 3: all but the RULES and the TAPE, as it is (the RULE IN FORCE, what can be UNDONE, too);");
        ToffeeTown x = Due.made(PARTED, "pour 1");
        x.seed(5);
        x.note(0, 0, 0);
        x.ice(2);
        x.day();
        for (int k = 0; k < 4; k++) {
            Due.refused(x, -1, "back", k);
            Due.answers(x, 1 + k, "image", k);
            x.day();
        }
        Due.refused(x, -1, "image", 4);
        Due.refused(x, -1, "back", 4);
        Due.refused(x, -1, "image", -1);
        x.force(-1);
        x.seed(6);
        x.note(-1, 0, 0);
        Due.town(x, "town 5 0 0");
        Due.rule(x, "pour 2");
        x.feed(0, 0, 0, 0, 0);
        for (int k = 3; k >= 0; k--) {
            Due.answers(x, 1 + k, "back", k);
            Due.due("the RULE IN FORCE", x.count(5), 0);
            Due.due("NOTES", x.count(12), 1);
            Due.due("x", x.count(14), 5);
            Due.due("HOUSES", x.count(3), 3);
            Due.due("ACTS", x.count(13), 2 + k);
            Due.due("ice", x.count(9), k == 0 ? 1 : 0);
            Due.due("RULES stay", x.count(4), 2);
            Due.due("the TAPE stays", x.count(15), 20);
        }
        Due.answers(x, 1, "undo");
        Due.answers(x, 0, "undo");
        Due.due("no ice", x.count(9), 0);
        Due.refused(x, -2, "undo");
    }

    private static void goneBack() {
        Doc.terms("gone back to, it is as it was (these stay).");
        ToffeeTown x = Due.made("town 60 0 0;heat 1;house 0", null);
        for (int act = 0; act < 25; act++) {
            x.day();
        }
        x.image(0);
        String was = Due.seen(x);
        for (int times = 0; times < 3; times++) {
            Due.undoAll(x);
            x.ice(3);
            x.day();
            Due.answers(x, 25, "back", 0);
            Due.due("as it was", Due.seen(x).equals(was) ? 1 : 0, 1);
        }
        for (int more = 19; more >= 0; more--) {
            Due.answers(x, more, "undo");
            Due.due("DAY", x.count(6), 5 + more);
        }
        Due.refused(x, -2, "undo");
    }
}
