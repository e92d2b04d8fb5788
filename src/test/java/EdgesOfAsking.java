/** Terms III: the edges of AHEAD, DOWN, PART, BLOCKS, ORDER and PARTS. */
final class EdgesOfAsking {
    private EdgesOfAsking() {
    }

    static void all() {
        nothingChanges();
        daysGoOn();
        ahead();
        aheadOfAll();
        down();
        part();
        side();
        leastSet();
        blocks();
        largest();
        order();
        parts();
        whatIsLeft();
    }

    private static void unchanged(ToffeeTown x, String name, int... args) {
        String before = Due.seen(x);
        Due.call(x, name, args);
        Due.due(Due.told(name, args) + " changed it", before.equals(Due.seen(x)) ? 0 : 1, 0);
    }

    private static void nothingChanges() {
        Doc.terms("(By what is asked nothing changes;");
        ToffeeTown x = Due.made("town 30 20 5;heat 3;heat 5;house 0;house 2;house 9;house 20;join 0 1 2;join 1 2 4;rock 2 4", "pour 1+hard");
        x.seed(12345);
        x.note(1, 0, 0);
        x.day();
        x.ice(4);
        x.feed(1, 2, 3, 4, 5);
        for (int what = -1; what <= 4; what++) {
            for (int n : new int[] {0, 1, 3, 20, 60, 100}) {
                unchanged(x, "ahead", 0, n, what);
                unchanged(x, "stay", 0, n);
                unchanged(x, "iced", n);
                unchanged(x, "stood", 1, 20, n, what);
                unchanged(x, "row", n, what);
                unchanged(x, "rests", 0, 1, n, what);
                unchanged(x, "look", n, what);
                unchanged(x, "summers", 3, n, 50, what);
                unchanged(x, "parts", n, 0);
            }
            unchanged(x, "part", 0, 2, what);
            unchanged(x, "blocks", what);
            unchanged(x, "ruled", what);
        }
        unchanged(x, "down", 0);
        unchanged(x, "order", 0);
        Due.due("ACTS", x.undo(), 1);
        Due.due("ACTS", x.undo(), 0);
        Due.due("PLACES", x.count(11), 31);
    }

    /** Beyond 512 calls: what it answers is free, but the words are kept all the same. */
    private static void daysGoOn() {
        Doc.terms("DAYS go on by the RULE IN FORCE, beyond 999, too.)");
        ToffeeTown x = Due.made("town 60 20 0;heat 0;heat 1;house 0;house 1;join 0 1 2;rock 1 9", "pour 1 if day=1000");
        Due.rule(x, "pour 1");
        Due.answers(x, 20, "ahead", 0, 5, 2);
        x.force(1);
        Due.answers(x, 15, "ahead", 0, 5, 2);
        x.force(-1);
        Due.answers(x, 20, "ahead", 0, 5, 2);
        for (int day = 0; day < 999; day++) {
            x.day();
        }
        x.force(0);
        Due.answers(x, 20, "ahead", 0, 1, 2);
        Due.answers(x, 19, "ahead", 0, 2, 2);
        x.crack(0, 1);
        Due.refused(x, -1, "day");
        Due.answers(x, 1, "ahead", 0, 1, 0);
        Due.answers(x, 1, "ahead", 0, 2, 0);
        Due.answers(x, 50, "ahead", 0, 100, 0);
        x = Due.made("town 5 0 0;heat 1;house 0;house 1;join 0 1 2;rock 1 9", null);
        for (int day = 0; day < 999; day++) {
            x.day();
        }
        x.crack(0, 1);
        Due.answers(x, 1004, "down", 0);
        Due.answers(x, 0, "order", 0);
        Due.answers(x, 2, "stay", 0, 60);
        Due.answers(x, 1, "iced", 5);
        Due.answers(x, 1, "summers", 1, 5, 0, 0);
        Due.answers(x, 6, "summers", 1, 60, 0, 1);
    }

    private static void ahead() {
        Doc.terms("AHEAD n DAYS (0 to 100): PLACE of a HOUSE;");
        ToffeeTown x = Due.made("town 60 3 0;heat 1;heat 0;house 0;house 59", null);
        Due.refused(x, -1, "ahead", 0, -1, 0);
        Due.answers(x, 0, "ahead", 0, 0, 0);
        Due.answers(x, 1, "ahead", 0, 1, 0);
        Due.answers(x, 50, "ahead", 0, 99, 0);
        Due.answers(x, 50, "ahead", 0, 100, 0);
        x.day();
        Due.answers(x, 51, "ahead", 0, 100, 0);
        Due.refused(x, -1, "ahead", 0, 101, 0);
        Due.due("HILL at most", x.ahead(1, 100, 0), 60);
    }

    private static void aheadOfAll() {
        Doc.terms("how many are in the RIVER; SUGAR.");
        ToffeeTown x = Due.made("town 10 2 0;heat 1;house 9;house 8;house 0;rock 2 9;join 0 2 1", null);
        Due.answers(x, 0, "ahead", 0, 0, 1);
        Due.answers(x, 1, "ahead", 0, 1, 1);
        Due.answers(x, 2, "ahead", 0, 2, 1);
        Due.answers(x, 2, "ahead", 0, 100, 1);
        Due.answers(x, 2, "ahead", 0, 0, 2);
        x = Due.made("town 10 2 0;house 9;house 0;join 0 1 1", "pour 1");
        Due.answers(x, 2, "ahead", 0, 0, 2);
        Due.answers(x, 1, "ahead", 0, 1, 2);
        Due.answers(x, 0, "ahead", 0, 2, 2);
        Due.answers(x, 0, "ahead", 0, 100, 2);
    }

    private static void down() {
        Doc.terms("DOWN of a HOUSE: the first DAY, this one the first, of 100, at whose begin it is in the RIVER.");
        // HEAT 1 on each eleventh DAY: in the RIVER behind DAY 98
        ToffeeTown x = Due.made("town 20 0 0" + Due.times(";heat 0", 10) + ";heat 1;house 11;house 10;house 19", null);
        Due.due("the hundredth", x.down(0), 99);
        Due.due("the 111th", x.down(1), -2);
        Due.due("the twelfth", x.down(2), 11);
        // HEAT 1 on DAY 3 and on each twelfth behind it: in the RIVER behind DAY 99
        x = Due.made("town 20 0 0;heat 0;heat 0;heat 0;heat 1" + Due.times(";heat 0", 8) + ";house 11;house 19", null);
        Due.due("the 101st", x.down(0), -2);
        x.day();
        Due.due("the hundredth", x.down(0), 100);
        x.day();
        x.day();
        Due.due("the next", x.down(1), 4);
        x.day();
        Due.due("this one", x.down(1), 4);
        x.day();
        Due.due("this one, a DAY on", x.down(1), 5);
    }

    private static void part() {
        Doc.terms("PART of two HOUSES: the fewest pours between HOUSES that must be CRACKED, so that no pours lead from the one to the other, by any others: how many;");
        String six = "town 60 0 0;heat 9" + Due.times(";house 9", 6);
        StringBuilder all = new StringBuilder(six);
        for (int one = 0; one < 6; one++) {
            for (int other = one + 1; other < 6; other++) {
                all.append(";join ").append(one).append(' ').append(other).append(" 1");
            }
        }
        ToffeeTown x = Due.made(six, null);
        Due.due("no pours", x.part(0, 5, 0), 0);
        x = Due.made(all.toString(), null);
        Due.due("all pours", x.part(0, 5, 0), 5);
        Due.due("all pours", x.part(5, 0, 0), 5);
        x = Due.made(six + ";join 0 1 9;join 1 2 1;join 2 3 9;join 3 4 9;join 4 5 9", null);
        Due.due("a row of pours", x.part(0, 5, 0), 1);
        x = Due.made(six + ";join 0 1 9;join 1 2 9;join 2 3 9;join 3 4 9;join 4 5 9;join 5 0 9", null);
        Due.due("a ring of pours, however hard", x.part(2, 4, 0), 2);
        // By ROCK nothing leads
        x = Due.made(six + ";rock 0 9;rock 5 9", null);
        Due.due("both to the rock", x.part(0, 5, 0), 0);
    }

    private static void side() {
        Doc.terms("the HOUSES on the side of the first one then, as bits;");
        String six = "town 60 0 0;heat 9" + Due.times(";house 9", 6);
        ToffeeTown x = Due.made(six, null);
        Due.due("alone", x.part(5, 0, 1), 32);
        Due.due("alone", x.part(0, 5, 1), 1);
        x = Due.made(six + ";join 0 1 9;join 1 2 9;join 0 2 9;join 2 3 9;join 3 4 9;join 4 5 9;join 3 5 9", null);
        Due.due("three on each side", x.part(0, 5, 1), 7);
        Due.due("three on each side", x.part(5, 0, 1), 56);
        x = Due.made(six + ";join 0 1 9;join 1 2 9;join 2 3 9;join 3 4 9", null);
        Due.due("all but one, none to crack", x.part(2, 5, 1), 31);
    }

    private static void leastSet() {
        Doc.terms("of several sets the least.");
        String six = "town 60 0 0;heat 9" + Due.times(";house 9", 6);
        ToffeeTown x = Due.made(six + ";join 0 1 9;join 1 2 9;join 2 3 9;join 3 4 9;join 4 5 9", null);
        Due.due("from the begin", x.part(0, 5, 1), 1);
        Due.due("from the end", x.part(5, 0, 1), 32);
        Due.due("from within", x.part(2, 5, 1), 7);
        Due.due("to the begin", x.part(2, 0, 1), 60);
    }

    private static void blocks() {
        Doc.terms("BLOCKS by HEAT of this DAY of HOUSES that are not in the RIVER: how many;");
        ToffeeTown x = Due.made("town 10 0 0;heat 4;house 0;house 1;house 9;house 9;join 0 1 4;join 2 3 5", null);
        Due.answers(x, 3, "blocks", 0);
        x.ice(1);
        Due.due("on ice", x.blocks(0), 2);
        x.undo();
        x.day();
        Due.due("two are in the RIVER", x.blocks(0), 2);
        x.day();
        x.day();
        Due.due("all are in the RIVER", x.blocks(0), 0);
        Due.due("no HOUSES", Due.made("town 10 0 0", null).blocks(0), 0);
        x = Due.made("town 10 0 0;heat 9" + Due.times(";house 0", 6), null);
        Due.due("six", x.blocks(0), 6);
    }

    private static void largest() {
        Doc.terms("the largest, of several the one with the least HOUSE, as bits.");
        String six = "town 10 0 0;heat 4" + Due.times(";house 0", 6);
        Due.due("each alone", Due.made(six, null).blocks(1), 1);
        Due.due("two of two", Due.made(six + ";join 5 1 5;join 4 2 5", null).blocks(1), 34);
        Due.due("two of three", Due.made(six + ";join 5 1 5;join 4 2 5;join 0 4 5;join 3 5 5", null).blocks(1), 21);
        Due.due("the larger", Due.made(six + ";join 0 1 5;join 4 2 5;join 3 4 5", null).blocks(1), 28);
        Due.due("all", Due.made(six + ";join 0 1 5;join 1 2 5;join 2 3 5;join 3 4 5;join 4 5 5", null).blocks(1), 63);
        ToffeeTown x = Due.made("town 10 0 0;heat 4;house 9;house 0", null);
        x.day();
        Due.due("the first is in the RIVER", x.blocks(1), 2);
    }

    private static void order() {
        Doc.terms("ORDER of a HOUSE: how many others are DOWN ahead of it, or on the same DAY and have a less number"
                + " (who never is, in 100 DAYS, behind all who are, by numbers).");
        ToffeeTown x = Due.made("town 10 0 0;heat 1;house 0;house 9;house 3;house 9;house 5;rock 0 9;rock 2 9", null);
        int[] order = {3, 0, 4, 1, 2};
        for (int house = 0; house < 5; house++) {
            Due.answers(x, order[house], "order", house);
        }
        Due.due("alone", Due.made("town 10 0 0;house 4", null).order(0), 0);
        x = Due.made("town 10 0 0;heat 1;house 4;house 5;house 6;house 7;house 8;house 9", null);
        for (int house = 0; house < 6; house++) {
            Due.answers(x, 5 - house, "order", house);
        }
        // In the RIVER behind DAYS 98, 99, 108 and never: at the begin of DAY 99, and of none of 100
        x = Due.made("town 20 0 0" + Due.times(";heat 0", 10) + ";heat 1;house 5;house 10;house 11", null);
        Due.due("the hundredth ahead of who never is", x.order(2), 0);
        Due.due("never, by numbers", x.order(0), 1);
        Due.due("never, by numbers, though sooner", x.order(1), 2);
        // In the RIVER already: on this DAY all of them, by numbers
        x = Due.made("town 10 0 0;heat 1;house 8;house 9", null);
        Due.due("later", x.order(0), 1);
        x.day();
        Due.due("later", x.order(0), 1);
        x.day();
        Due.due("the same DAY", x.order(0), 0);
        Due.due("the same DAY", x.order(1), 1);
    }

    private static void shares(ToffeeTown x, int treacle, int... want) {
        for (int house = 0; house < want.length; house++) {
            Due.answers(x, want[house], "parts", treacle, house);
        }
    }

    private static void parts() {
        Doc.terms("PARTS of TREACLE (0 to 9999) among HOUSES by HARD of all their pours and ROCK, together: each the part downwards;");
        ToffeeTown x = Due.made("town 60 0 0;house 0;house 1;house 2;join 1 2 9;rock 2 3;rock 0 9", null);
        shares(x, 0, 0, 0, 0);
        shares(x, 30, 9, 9, 12);
        shares(x, 9990, 2997, 2997, 3996);
        Due.refused(x, -1, "parts", -1, 0);
        Due.refused(x, -1, "parts", 10000, 0);
        shares(Due.made("town 60 0 0;house 0;rock 0 9", null), 9999, 9999);
        Due.due("the least that one can have", Due.made("town 60 0 0;house 0;house 1;rock 1 1", null).parts(9999, 1), 9999);
        x = Due.made("town 60 0 0" + Due.times(";house 0", 6) + ";rock 0 1;rock 1 2;rock 2 3;rock 3 4;rock 4 5;rock 5 9", null);
        shares(x, 24, 1, 2, 3, 4, 5, 9);
    }

    private static void whatIsLeft() {
        Doc.terms("what is left, one each, to those whose part lost most by that, of several the least first (nothing, if nobody has any).");
        ToffeeTown x = Due.made("town 60 0 0;house 0;house 1;house 2;join 0 1 1;join 1 2 1;join 0 2 1", null);
        shares(x, 9998, 3333, 3333, 3332);
        shares(x, 9997, 3333, 3332, 3332);
        shares(x, 9999, 3333, 3333, 3333);
        shares(x, 1, 1, 0, 0);
        // Of 7: 1, 2 and 4 of them, of 9999 they lose 3, 6 and 5 sevenths
        x = Due.made("town 60 0 0;house 0;house 1;house 2;house 3;rock 0 1;rock 1 2;rock 2 4", null);
        shares(x, 9999, 1428, 2857, 5714, 0);
        shares(x, 1, 0, 0, 1, 0);
        shares(x, 2, 0, 1, 1, 0);
        x = Due.made("town 60 0 0;house 0;house 1", null);
        shares(x, 9999, 0, 0);
        x = Due.made("town 5 0 0;heat 4;house 4;house 0;rock 0 4;rock 1 4", null);
        shares(x, 9999, 5000, 4999);
        x.day();
        Due.due("what went into the RIVER has none", x.parts(9999, 0), 0);
        Due.due("what has none beside it has all", x.parts(9999, 1), 9999);
    }
}
