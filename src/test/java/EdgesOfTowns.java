/** Terms I: the edges of a TOWN's text. */
final class EdgesOfTowns {
    private EdgesOfTowns() {
    }

    static void all() {
        bytes();
        clauses();
        hill();
        sugar();
        stick();
        once();
        heats();
        comingRound();
        places();
        joins();
        hards();
        lastJoin();
        rocked();
        rocks();
        lastRock();
        houses();
        noHeats();
        begin();
        noIce();
    }

    private static void bytes() {
        Doc.terms("A TOWN is a text of at most 400 bytes");
        ToffeeTown x = new ToffeeTown();
        Due.feed(x, "town 5 0 0" + Due.times(" ", 390));
        Due.answers(x, 400, "count", 15);
        Due.refused(x, -1, "feed", 0, 0, 0, 0, 0);
        Due.answers(x, 0, "town");
        Due.answers(x, 5, "count", 0);
        Due.isTown("town 5 0 0" + Due.times(" ", 382) + ";house 4", 1);
        Due.noTown("town 5 0 0" + Due.times(" ", 389) + ";@", Due.WRONG);
        Due.noTown("@", Due.WRONG);
    }

    private static void clauses() {
        Doc.terms("CLAUSE { ; CLAUSE }, 40 at most");
        String forty = "town 5 0 0;house 0" + Due.times(";rock0 1", 38);
        Due.isTown("town 5 0 0", 0);
        Due.isTown(forty, 1);
        Due.noTown(forty + ";@rock0 1", Due.CLAUSE);
        Due.noTown(forty + ";@house 0", Due.CLAUSE);
        Due.noTown(forty + ";@", Due.WRONG);
        Due.noTown("town 5 0 0@house 0", Due.WRONG);
        Due.noTown("town 5 0 0;@;house 0", Due.WRONG);
        Due.noTown("@;town 5 0 0", Due.WRONG);
        Due.noTown("town 5 0 0;@", Due.WRONG);
    }

    private static void hill() {
        Doc.terms("HILL 5 to 60");
        Due.due("HILL", Due.isTown("town 5 0 0", 0).count(0), 5);
        Due.due("HILL", Due.isTown("town 60 0 0", 0).count(0), 60);
        Due.due("HILL", Due.isTown("town 00060 0 0", 0).count(0), 60);
        Due.noTown("town @0 0 0", Due.NUMBER);
        Due.noTown("town @4 0 0", Due.NUMBER);
        Due.noTown("town @61 0 0", Due.NUMBER);
        Due.noTown("town @99999 0 0", Due.NUMBER);
        Due.noTown("town @100000 0 0", Due.NUMBER);
        // 2 to the 32, and 5 more: no way round to what is told
        Due.noTown("town @4294967301 0 0", Due.NUMBER);
        Due.noTown("town @-5 0 0", Due.WRONG);
    }

    private static void sugar() {
        Doc.terms("SUGAR 0 to 99");
        Due.due("SUGAR", Due.isTown("town 5 0 0", 0).count(8), 0);
        Due.due("SUGAR", Due.isTown("town 5 99 0", 0).count(8), 99);
        Due.noTown("town 5 @100 0", Due.NUMBER);
        Due.noTown("town 5 @-1 0", Due.WRONG);
    }

    private static void stick() {
        Doc.terms("STICK 0 to 9");
        Due.due("STICK", Due.isTown("town 5 0 0", 0).count(1), 0);
        Due.due("STICK", Due.isTown("town 5 0 9", 0).count(1), 9);
        Due.noTown("town 5 0 @10", Due.NUMBER);
        Due.noTown("town 5 0@", Due.WRONG);
    }

    private static void once() {
        Doc.terms("once, the first CLAUSE)");
        Due.noTown("town 5 0 0;@town 5 0 0", Due.CLAUSE);
        Due.noTown("town 5 0 0;house 4;@town 9 0 0", Due.CLAUSE);
        Due.noTown("@house 4;town 5 0 0", Due.CLAUSE);
        Due.noTown("@heat 4;town 5 0 0", Due.CLAUSE);
    }

    private static void heats() {
        Doc.terms("heat NUMBER (0 to 9;");
        Due.due("HEAT", Due.isTown("town 5 0 0;heat 0", 0).count(7), 0);
        Due.due("HEAT", Due.isTown("town 5 0 0;heat 9", 0).count(7), 9);
        Due.noTown("town 5 0 0;heat @10", Due.NUMBER);
        Due.noTown("town 5 0 0;heat @", Due.WRONG);
        Due.noTown("town 5 0 0;heat 1 @2", Due.WRONG);
    }

    private static void comingRound() {
        Doc.terms("of the next day that comes round, 12 at most)");
        String twelve = "town 5 0 0;heat 1;heat 2;heat 3;heat 4;heat 5;heat 6;heat 7;heat 8;heat 9;heat 0;heat 5;heat 7";
        int[] heats = {1, 2, 3, 4, 5, 6, 7, 8, 9, 0, 5, 7};
        ToffeeTown x = Due.isTown(twelve, 0);
        Due.due("heats", x.count(2), 12);
        for (int day = 0; day < 26; day++) {
            Due.due("HEAT of DAY " + day, x.count(7), heats[day % 12]);
            x.day();
        }
        Due.noTown(twelve + ";@heat 1", Due.CLAUSE);
        Due.noTown(twelve + ";house 0;@heat 1", Due.CLAUSE);
        x = Due.isTown("town 5 0 0;heat 6", 0);
        for (int day = 0; day < 3; day++) {
            Due.due("one heat on DAY " + day, x.count(7), 6);
            x.day();
        }
    }

    private static void places() {
        Doc.terms("house NUMBER (PLACE 0 to HILL - 1, from the top)");
        ToffeeTown x = Due.isTown("town 5 0 0;house 0;house 4", 2);
        Due.due("PLACE", x.house(0, 0), 0);
        Due.due("PLACE", x.house(1, 0), 4);
        Due.due("in the RIVER", x.count(10), 0);
        Due.noTown("town 5 0 0;house @5", Due.NUMBER);
        Due.isTown("town 60 0 0;house 59", 1);
        Due.noTown("town 60 0 0;house @60", Due.NUMBER);
        x = Due.isTown("town 60 0 0;heat 1;house 0", 1);
        x.day();
        Due.due("down is away from the top", x.house(0, 0), 1);
    }

    private static void joins() {
        Doc.terms("(two HOUSES that were told;");
        Due.noTown("town 5 0 0;join @0 1 1;house 0;house 1", Due.NUMBER);
        Due.noTown("town 5 0 0;house 0;join 0 @1 1;house 1", Due.NUMBER);
        Due.noTown("town 5 0 0;house 0;join @1 0 1;house 1", Due.NUMBER);
        Due.noTown("town 5 0 0;house 0;house 1;join 1 @1 1", Due.NUMBER);
        Due.noTown("town 5 0 0;house 0;house 1;join 0 @2 1", Due.NUMBER);
        Due.isTown("town 5 0 0;house 0;house 1;join 0 1 1", 2);
        String six = "town 5 0 0" + Due.times(";house 0", 6);
        Due.due("pourOf(5, 4)", Due.isTown(six + ";join 4 5 2", 6).pourOf(5, 4), 2);
        Due.noTown(six + ";join 5 @6 2", Due.NUMBER);
        Due.noTown(six + ";join @6 5 2", Due.NUMBER);
    }

    private static void hards() {
        Doc.terms("HARD 1 to 9;");
        String two = "town 5 0 0;house 0;house 1;join 0 1 ";
        Due.noTown(two + "@0", Due.NUMBER);
        Due.due("HARD", Due.isTown(two + "1", 2).pourOf(0, 1), 1);
        Due.due("HARD", Due.isTown(two + "9", 2).pourOf(0, 1), 9);
        Due.noTown(two + "@10", Due.NUMBER);
        Due.noTown(two + "@", Due.WRONG);
    }

    private static void lastJoin() {
        Doc.terms("of the same two, either way round, the last told)");
        String two = "town 5 0 0;house 0;house 1;house 2;join 0 1 4;join 1 2 5";
        Due.due("told once", Due.isTown(two, 3).pourOf(1, 0), 4);
        Due.due("told again", Due.isTown(two + ";join 0 1 2", 3).pourOf(0, 1), 2);
        ToffeeTown x = Due.isTown(two + ";join 1 0 7", 3);
        Due.due("told the other way round", x.pourOf(0, 1), 7);
        Due.due("told the other way round", x.pourOf(1, 0), 7);
        Due.due("another two", x.pourOf(1, 2), 5);
    }

    private static void rocked() {
        Doc.terms("rock NUMBER NUMBER (a HOUSE that was told;");
        Due.noTown("town 5 0 0;rock @0 1;house 0", Due.NUMBER);
        Due.noTown("town 5 0 0;house 0;rock @1 1", Due.NUMBER);
        Due.due("ROCK", Due.isTown("town 5 0 0;house 0;rock 0 1", 1).house(0, 1), 1);
        String six = "town 5 0 0" + Due.times(";house 0", 6);
        Due.due("ROCK", Due.isTown(six + ";rock 5 3", 6).house(5, 1), 3);
        Due.noTown(six + ";rock @6 3", Due.NUMBER);
    }

    private static void rocks() {
        Doc.terms("its ROCK, 1 to 9;");
        String one = "town 5 0 0;house 0;rock 0 ";
        Due.noTown(one + "@0", Due.NUMBER);
        Due.due("ROCK", Due.isTown(one + "1", 1).house(0, 1), 1);
        Due.due("ROCK", Due.isTown(one + "9", 1).house(0, 1), 9);
        Due.noTown(one + "@10", Due.NUMBER);
    }

    private static void lastRock() {
        Doc.terms("the last told).");
        ToffeeTown x = Due.isTown("town 5 0 0;house 0;house 1;rock 0 9;rock 1 4;rock 0 2", 2);
        Due.due("ROCK", x.house(0, 1), 2);
        Due.due("ROCK", x.house(1, 1), 4);
    }

    private static void houses() {
        Doc.terms("HOUSES 0 to 5, in the order told;");
        ToffeeTown x = Due.isTown("town 9 0 0;house 8;house 0;house 3;house 3;house 7;house 1", 6);
        int[] places = {8, 0, 3, 3, 7, 1};
        for (int house = 0; house < 6; house++) {
            Due.answers(x, places[house], "house", house, 0);
        }
        Due.refused(x, -1, "house", 6, 0);
        Due.noTown("town 9 0 0;house 8;house 0;house 3;house 3;house 7;house 1;@house 1", Due.CLAUSE);
    }

    private static void noHeats() {
        Doc.terms("without heats each day has 0.");
        ToffeeTown x = Due.isTown("town 9 0 0;house 8", 1);
        for (int day = 0; day < 3; day++) {
            Due.answers(x, 0, "count", 7);
            Due.answers(x, 0, "day");
        }
        Due.answers(x, 0, "count", 2);
        Due.answers(x, 8, "house", 0, 0);
    }

    private static void begin() {
        Doc.terms("It is DAY 0;");
        ToffeeTown x = Due.isTown("town 9 0 0;heat 1;heat 2", 0);
        Due.answers(x, 0, "count", 6);
        x.day();
        Due.town(x, "town 9 0 0;heat 1;heat 2");
        Due.answers(x, 0, "count", 6);
        Due.answers(x, 1, "count", 7);
    }

    private static void noIce() {
        Doc.terms("no ice.");
        ToffeeTown x = Due.isTown("town 9 0 0;heat 7", 0);
        Due.answers(x, 0, "count", 9);
        x.ice(9);
        Due.town(x, "town 9 0 0;heat 7");
        Due.answers(x, 0, "count", 9);
        Due.answers(x, 7, "count", 7);
    }
}
