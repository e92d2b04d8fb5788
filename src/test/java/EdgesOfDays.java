/** Terms II: the edges of HEAT, of what HOLDS, and of a DAY. */
final class EdgesOfDays {
    private EdgesOfDays() {
    }

    static void all() {
        restOfDay();
        ice();
        holds();
        rockHolds();
        blocks();
        fast();
        river();
        sugar();
        belowNine();
        noClause();
        aboveNone();
        ofSeveral();
        oneMore();
        goingDown();
        hillAtMost();
        looseInRiver();
        sticking();
        iceLess();
        lastDay();
    }

    private static void places(ToffeeTown x, int... want) {
        for (int house = 0; house < want.length; house++) {
            Due.answers(x, want[house], "house", house, 0);
        }
    }

    private static void restOfDay() {
        Doc.terms("HEAT of a DAY: as told of the rest of DAY by how many heats there are;");
        ToffeeTown x = Due.made("town 60 0 0;heat 2;heat 3;heat 4", null);
        int[] heats = {2, 3, 4, 2, 3, 4, 2};
        for (int heat : heats) {
            Due.answers(x, heat, "count", 7);
            x.day();
        }
    }

    private static void ice() {
        Doc.terms("3 less, 0 at least, if there is ice on it.");
        ToffeeTown x = Due.made("town 60 0 0;heat 0;heat 1;heat 2;heat 3;heat 4;heat 9", null);
        int[] heats = {0, 0, 0, 0, 1, 6};
        x.ice(6);
        for (int heat : heats) {
            Due.answers(x, heat, "count", 7);
            x.day();
        }
        x.day();
        Due.due("HEAT without ice", x.count(7), 1);
        x = Due.made("town 60 0 0;heat 3;house 5", null);
        x.ice(1);
        Due.due("none goes down at HEAT 0", x.day(), 0);
        Due.due("a DAY behind the ice", x.day(), 1);
    }

    private static void holds() {
        Doc.terms("A pour HOLDS, if it is harder than HEAT (of two HOUSES: HARD;");
        String houses = ";house 0;house 9;house 18;join 0 1 4;join 1 2 5";
        ToffeeTown x = Due.made("town 60 0 0;heat 4" + houses, null);
        Due.due("as hard as HEAT", x.house(0, 3), 1);
        Due.due("harder than HEAT", x.house(1, 3), 6);
        x = Due.made("town 60 0 0;heat 3" + houses, null);
        Due.due("harder than HEAT", x.house(0, 3), 7);
        x = Due.made("town 60 0 0;house 0;house 1;house 2;join 0 1 1", null);
        Due.due("HARD 1 by HEAT 0", x.house(0, 3), 3);
        Due.due("no pour by HEAT 0", x.house(2, 3), 4);
        x = Due.made("town 60 0 0;heat 9;house 0;house 1;join 0 1 9", null);
        Due.due("HARD 9 by HEAT 9", x.house(0, 3), 1);
        x.ice(1);
        Due.due("HARD 9 by HEAT 6", x.house(0, 3), 3);
    }

    private static void rockHolds() {
        Doc.terms("to the rock: ROCK).");
        ToffeeTown x = Due.made("town 60 0 0;heat 4;house 0;house 9;house 18;rock 0 4;rock 1 5", null);
        Due.due("as hard as HEAT", x.house(0, 4), 0);
        Due.due("harder than HEAT", x.house(1, 4), 1);
        Due.due("without ROCK", x.house(2, 4), 0);
        Due.due("two go down", x.day(), 2);
        places(x, 4, 9, 22);
        x = Due.made("town 60 0 0;house 0;house 9;rock 0 1", null);
        Due.due("ROCK 1 by HEAT 0", x.house(0, 4), 1);
        Due.due("without ROCK by HEAT 0", x.house(1, 4), 0);
        x = Due.made("town 60 0 0;heat 9;house 0;rock 0 9", null);
        Due.due("ROCK 9 by HEAT 9", x.house(0, 4), 0);
    }

    private static void blocks() {
        Doc.terms("HOUSES that HOLD to one another, one to the next, are a BLOCK;");
        String six = "town 60 0 0;heat 4;house 0;house 1;house 2;house 3;house 4;house 5";
        ToffeeTown x = Due.made(six + ";join 5 0 5;join 0 4 5;join 4 1 5;join 1 3 5;join 3 2 5", null);
        for (int house = 0; house < 6; house++) {
            Due.answers(x, 63, "house", house, 3);
        }
        x.crack(4, 1);
        Due.answers(x, 49, "house", 5, 3);
        Due.answers(x, 14, "house", 2, 3);
        x = Due.made(six, null);
        for (int house = 0; house < 6; house++) {
            Due.answers(x, 1 << house, "house", house, 3);
        }
    }

    private static void fast() {
        Doc.terms("it is FAST, if one of them HOLDS to the rock.");
        String six = "town 60 0 0;heat 4;house 0;house 1;house 2;house 3;house 4;house 5";
        ToffeeTown x = Due.made(six + ";join 5 0 5;join 0 4 5;join 4 1 5;join 1 3 5;join 3 2 5;rock 2 5", null);
        for (int house = 0; house < 6; house++) {
            Due.answers(x, 1, "house", house, 4);
        }
        Due.due("none goes down", x.day(), 0);
        x.crack(4, 1);
        Due.answers(x, 0, "house", 0, 4);
        Due.answers(x, 1, "house", 1, 4);
        x = Due.made(six + ";join 0 1 4;rock 1 5", null);
        Due.due("what holds to it not is not", x.house(0, 4), 0);
    }

    private static void river() {
        Doc.terms("A HOUSE whose PLACE is HILL is in the RIVER.");
        ToffeeTown x = Due.made("town 10 0 0;heat 1;house 8;house 9", null);
        Due.answers(x, 0, "count", 10);
        x.day();
        places(x, 9, 10);
        Due.answers(x, 2, "count", 10);
        x.day();
        places(x, 10, 10);
        Due.answers(x, 3, "count", 10);
    }

    private static void sugar() {
        Doc.terms("A DAY: (1) If there is SUGAR");
        ToffeeTown x = Due.made("town 20 0 0;house 0;house 5;join 0 1 1", "pour 1");
        x.day();
        Due.due("without SUGAR", x.pourOf(0, 1), 1);
        Due.answers(x, 0, "count", 8);
        x = Due.made("town 20 1 0;house 0;house 5;join 0 1 1", "pour 1");
        x.day();
        Due.due("the last SUGAR", x.pourOf(0, 1), 2);
        Due.answers(x, 0, "count", 8);
        x.day();
        Due.due("without SUGAR", x.pourOf(0, 1), 2);
        Due.answers(x, 0, "count", 8);
    }

    private static void belowNine() {
        Doc.terms("of all twos with a pour of HARD below 9");
        ToffeeTown x = Due.made("town 20 9 0;house 0;house 5;house 9;join 0 1 8;join 0 2 9", "pour other");
        x.day();
        Due.due("from 8", x.pourOf(0, 1), 9);
        Due.due("9 is no harder", x.pourOf(0, 2), 9);
        Due.answers(x, 8, "count", 8);
        x.day();
        Due.due("9 at most", x.pourOf(0, 1), 9);
        Due.due("no pour, none hardened", x.pourOf(1, 2), 0);
        Due.answers(x, 8, "count", 8);
    }

    private static void noClause() {
        Doc.terms("the SUM of the RULE IN FORCE's first CLAUSE without a TEST, or whose TEST holds (0 without)");
        String town = "town 20 9 0;house 0;house 5;house 9;join 0 1 1;join 1 2 1";
        hardens(town, "pour 5 if 1=2", 1, 1);
        hardens(town, "pour 5 if 1=2;pour 6 if 2=3", 1, 1);
        hardens(town, "pour 5 if 1=2;pour one+1", 1, 2);
        hardens(town, "pour 0;pour 9", 1, 1);
        hardens(town, "pour 0 if 1=1", 1, 1);
        hardens(town, "pour one if 1=1", 1, 2);
        hardens(town, "pour 3-one if 1=1;pour 9", 2, 1);
        hardens(town, "pour 0 if one=0;pour 7;pour 99 if one=0", 1, 2);
        hardens(town, "pour 1;pour 9 if one=1", 2, 1);
        hardens(town, "pour 1" + Due.times(" if 1=2;pour 1", 10) + " if 1=2;pour one", 1, 2);
    }

    private static void hardens(String town, String rule, int of01, int of12) {
        ToffeeTown x = Due.made(town, rule);
        x.day();
        Due.due(rule + ": pourOf(0, 1)", x.pourOf(0, 1), of01);
        Due.due(rule + ": pourOf(1, 2)", x.pourOf(1, 2), of12);
    }

    private static void aboveNone() {
        Doc.terms("is greatest, if it is above 0");
        String town = "town 20 9 0;house 0;house 5;house 9;join 0 1 1;join 1 2 1";
        hardens(town, "pour 0", 1, 1);
        hardens(town, "pour 0-1", 1, 1);
        hardens(town, "pour 1", 2, 1);
        hardens(town, "pour one-1", 1, 1);
        hardens(town, "pour one", 1, 2);
        // 2 to the 63 less 1 is the greatest, 1 more the least
        hardens(town, "pour 32768*32768*32768*32768*8-1+one", 2, 1);
        hardens(town, "pour 32768*32768*32768*32768*8-2+one", 1, 2);
        hardens(town, "pour 32768*32768*32768*32768*8", 1, 1);
    }

    private static void ofSeveral() {
        Doc.terms("of several the least one, then the least other");
        String town = "town 20 9 0;house 0;house 5;house 9;house 1;join 2 3 1;join 1 3 1;join 2 1 1;join 3 0 1";
        ToffeeTown x = Due.made(town, "pour 1");
        x.day();
        Due.due("the least one", x.pourOf(0, 3), 2);
        x = Due.made(town, "pour 1 if one>0");
        x.day();
        Due.due("the least other", x.pourOf(1, 2), 2);
        x = Due.made(town, "pour 1 if other=3 and one>0");
        x.day();
        Due.due("the least one", x.pourOf(1, 3), 2);
        x = Due.made(town, "pour 1+one/2");
        x.day();
        Due.due("the greatest ahead of the least", x.pourOf(2, 3), 2);
    }

    private static void oneMore() {
        Doc.terms("its HARD is 1 more, SUGAR 1 less (without a RULE none)");
        ToffeeTown x = Due.made("town 20 9 0;house 0;house 5;join 0 1 1", "pour 99999");
        x.day();
        Due.answers(x, 2, "pourOf", 1, 0);
        Due.answers(x, 8, "count", 8);
        x.force(-1);
        x.day();
        Due.answers(x, 2, "pourOf", 1, 0);
        Due.answers(x, 8, "count", 8);
        x = Due.made("town 20 9 0;house 0;house 5;join 0 1 1", null);
        x.day();
        Due.answers(x, 1, "pourOf", 1, 0);
    }

    private static void goingDown() {
        Doc.terms("(2) Each BLOCK that is not FAST and not in the RIVER goes down as many PLACES as HEAT is,"
                + " less as many as it has HOUSES besides the first, 0 at least");
        for (int heat = 0; heat <= 8; heat++) {
            for (int size = 1; size <= 6; size++) {
                ToffeeTown x = Due.made("town 60 0 0;heat " + heat + chain(size), null);
                int steps = Math.max(0, heat - (size - 1));
                Due.due("HEAT " + heat + ", " + size + " in the BLOCK: day()", x.day(), steps == 0 ? 0 : size);
                for (int house = 0; house < size; house++) {
                    Due.answers(x, 10 * house + steps, "house", house, 0);
                }
            }
        }
        // By HEAT 9 each is alone
        ToffeeTown x = Due.made("town 60 0 0;heat 9" + chain(6), null);
        Due.answers(x, 6, "day");
        places(x, 9, 19, 29, 39, 49, 59);
        x = Due.made("town 10 0 0;heat 9;house 9;house 0;rock 1 9", null);
        Due.answers(x, 2, "day");
        Due.due("not in the RIVER", x.day(), 1);
        Due.due("not in the RIVER", x.day(), 0);
        x = Due.made("town 10 0 0;heat 9;house 0;rock 0 9", null);
        x.ice(1);
        Due.due("FAST", x.day(), 0);
    }

    /** So many HOUSES ten apart, each with the next by a pour of HARD 9. */
    private static String chain(int size) {
        StringBuilder s = new StringBuilder();
        for (int house = 0; house < size; house++) {
            s.append(";house ").append(10 * house);
        }
        for (int house = 1; house < size; house++) {
            s.append(";join ").append(house - 1).append(' ').append(house).append(" 9");
        }
        return s.toString();
    }

    private static void hillAtMost() {
        Doc.terms("each of its HOUSES, HILL at most, all by how it was behind (1).");
        ToffeeTown x = Due.made("town 20 0 0;heat 4;house 15;house 16;house 17;house 19", null);
        Due.answers(x, 4, "day");
        places(x, 19, 20, 20, 20);
        // Each of a BLOCK by itself
        x = Due.made("town 20 0 0;heat 4;house 19;house 0;join 0 1 9", null);
        Due.answers(x, 2, "day");
        places(x, 20, 3);
        // Hardened ahead of it, a pour holds
        x = Due.made("town 20 9 0;heat 4;house 0;house 5;rock 0 9;join 0 1 4", "pour 1");
        Due.answers(x, 0, "day");
        // What goes by another on its way sticks to it a DAY later at the soonest
        x = Due.made("town 20 9 5;heat 4;house 0;house 4;house 9;rock 1 9", null);
        Due.answers(x, 2, "day");
        places(x, 4, 4, 13);
        Due.due("stuck, it is FAST", x.day(), 1);
        places(x, 4, 4, 17);
    }

    private static void looseInRiver() {
        Doc.terms("(3) A HOUSE in the RIVER has no pour, to none and not to the rock.");
        ToffeeTown x = Due.made("town 10 0 9;heat 4;house 8;house 0;house 7;join 0 1 9;join 1 2 9;rock 0 4", null);
        Due.answers(x, 3, "day");
        places(x, 10, 2, 9);
        Due.answers(x, 0, "house", 0, 1);
        Due.answers(x, 0, "house", 0, 2);
        Due.answers(x, 0, "pourOf", 0, 1);
        Due.answers(x, 4, "house", 1, 2);
        Due.answers(x, 9, "pourOf", 1, 2);
        Due.answers(x, 1, "house", 0, 3);
        Due.answers(x, 0, "house", 0, 4);
        for (int gone = 0; gone < 6; gone++) {
            looseOfSix(gone);
        }
    }

    /** Six HOUSES with all pours, all but one of them FAST: that one goes into the RIVER. */
    private static void looseOfSix(int gone) {
        StringBuilder town = new StringBuilder("town 20 0 9;heat 4");
        for (int house = 0; house < 6; house++) {
            town.append(house == gone ? ";house 19" : ";house 0;rock " + house + " 9");
        }
        for (int one = 0; one < 6; one++) {
            for (int other = one + 1; other < 6; other++) {
                town.append(";join ").append(one).append(' ').append(other).append(" 4");
            }
        }
        ToffeeTown x = Due.made(town.toString(), null);
        Due.answers(x, 1, "day");
        for (int house = 0; house < 6; house++) {
            Due.answers(x, house == gone ? 0 : 63 - (1 << house) - (1 << gone), "house", house, 2);
        }
    }

    private static void sticking() {
        Doc.terms("(4) Each two HOUSES that have gone to one PLACE, neither in the RIVER, one at least having gone down on this DAY,"
                + " without a pour between them: there is one of HARD STICK (none, if that is 0).");
        ToffeeTown x = Due.made("town 10 0 9;heat 2;house 0;house 2;house 2;house 0;rock 1 9;rock 2 9;join 0 1 1", null);
        x.day();
        places(x, 2, 2, 2, 2);
        Due.due("there was one", x.pourOf(0, 1), 1);
        Due.due("one gone", x.pourOf(0, 2), 9);
        Due.due("both gone", x.pourOf(0, 3), 9);
        Due.due("neither gone", x.pourOf(1, 2), 0);
        x = Due.made("town 10 0 1;heat 2;house 0;house 2;rock 1 9", null);
        x.day();
        Due.due("STICK 1", x.pourOf(1, 0), 1);
        x = Due.made("town 10 0 0;heat 2;house 0;house 2;rock 1 9", null);
        x.day();
        Due.due("STICK 0", x.pourOf(1, 0), 0);
        Due.answers(x, 0, "house", 1, 2);
        x = Due.made("town 10 0 5;heat 2;house 8;house 9", null);
        x.day();
        Due.due("both in the RIVER", x.pourOf(0, 1), 0);
        // At HEAT 0 none goes down, so that nothing sticks
        x = Due.made("town 10 0 5;house 3;house 3", null);
        x.day();
        Due.due("none gone", x.pourOf(0, 1), 0);
        // Too heavy to go down
        x = Due.made("town 10 0 5;heat 1;house 3;house 3;house 9;join 0 2 9;rock 1 9", null);
        Due.answers(x, 0, "day");
        Due.due("none gone", x.pourOf(0, 1), 0);
    }

    private static void iceLess() {
        Doc.terms("Ice lasts a DAY less.");
        ToffeeTown x = Due.made("town 10 0 0;heat 5", null);
        x.ice(2);
        for (int ice : new int[] {2, 1, 0, 0}) {
            Due.answers(x, ice, "count", 9);
            Due.answers(x, ice > 0 ? 2 : 5, "count", 7);
            x.day();
        }
    }

    /** No 512 calls lead there: what it answers is free, but the words are kept all the same. */
    private static void lastDay() {
        Doc.terms("DAY is 1 more (999 at most).");
        ToffeeTown x = Due.made("town 20 0 0;heat 0;heat 1;heat 2;house 0;rock 0 9", null);
        for (int day = 0; day < 999; day++) {
            Due.due("DAY", x.count(6), day);
            Due.due("day() on DAY " + day, x.day(), 0);
        }
        Due.answers(x, 999, "count", 6);
        Due.answers(x, 0, "count", 7);
        Due.refused(x, -1, "day");
    }
}
