/** Terms II: the edges of ACTS. */
final class EdgesOfActs {
    private static final String TOWN = "town 10 20 4;heat 4;house 0;house 3;house 7;house 9;join 0 1 3;rock 1 6";

    private EdgesOfActs() {
    }

    static void all() {
        acts();
        crack();
        pour();
        rock();
        ice();
        twenty();
    }

    private static void acts() {
        Doc.terms("ACTS: a DAY;");
        ToffeeTown x = Due.made(TOWN, "pour 1");
        x.force(-1);
        x.force(0);
        x.note(0, 0, 0);
        x.seed(9);
        x.image(0);
        Due.due("no ACTS", x.count(13), 0);
        x.day();
        x.ice(1);
        x.crack(0, 1);
        x.pour(0, 1, 1);
        x.rock(0, 1);
        Due.due("ACTS", x.count(13), 5);
        // Even a DAY on which nothing goes is one
        x = Due.made("town 5 0 0", null);
        x.day();
        Due.due("ACTS", x.count(13), 1);
        Due.answers(x, 0, "undo");
        Due.answers(x, 0, "count", 6);
    }

    private static void crack() {
        Doc.terms("CRACK (the pour between two HOUSES is there no more);");
        ToffeeTown x = Due.made(TOWN, null);
        Due.answers(x, 3, "crack", 1, 0);
        Due.answers(x, 0, "pourOf", 0, 1);
        Due.answers(x, 0, "house", 0, 2);
        Due.answers(x, 0, "house", 1, 2);
        Due.due("ROCK stays", x.house(1, 1), 6);
        Due.refused(x, -1, "crack", 1, 0);
    }

    private static void pour() {
        Doc.terms("POUR (two HOUSES without one, neither in the RIVER, at most 3 PLACES apart: one of HARD 1 to 9, which takes as much SUGAR);");
        ToffeeTown x = Due.made("town 20 19 0;heat 5;house 8;house 8;house 11;house 12;house 5;house 19;rock 0 9;rock 5 4", null);
        Due.due("0 apart, HARD 1", x.pour(0, 1, 1), 18);
        Due.due("3 apart, HARD 9", x.pour(0, 2, 9), 9);
        Due.due("3 apart the other way", x.pour(0, 4, 2), 7);
        Due.refused(x, -1, "pour", 0, 3, 1);
        Due.refused(x, -1, "pour", 3, 0, 1);
        Due.refused(x, -1, "pour", 0, 1, 1);
        Due.refused(x, -1, "pour", 1, 0, 1);
        Due.refused(x, -1, "pour", 2, 3, 0);
        Due.refused(x, -1, "pour", 2, 3, -1);
        Due.refused(x, -1, "pour", 2, 3, 10);
        Due.refused(x, -1, "pour", 2, 3, 8);
        Due.due("as much SUGAR as there is", x.pour(2, 3, 7), 0);
        Due.answers(x, 7, "pourOf", 3, 2);
        x = Due.made("town 20 19 0;heat 5;house 19;house 18;house 17;rock 2 9", null);
        x.day();
        Due.due("in the RIVER", x.count(10), 3);
        Due.refused(x, -1, "pour", 0, 1, 1);
        Due.refused(x, -1, "pour", 0, 2, 1);
        Due.refused(x, -1, "pour", 2, 0, 1);
        // Without HARD what STICK would give: a pour that was cracked can be poured again
        x = Due.made(TOWN, null);
        x.crack(0, 1);
        Due.answers(x, 11, "pour", 1, 0, 9);
    }

    private static void rock() {
        Doc.terms("ROCK (a HOUSE not in the RIVER has another ROCK, harder than it was, 9 at most: which takes as much SUGAR as it is harder);");
        ToffeeTown x = Due.made(TOWN, null);
        Due.refused(x, -1, "rock", 1, 5);
        Due.refused(x, -1, "rock", 1, 6);
        Due.refused(x, -1, "rock", 1, 10);
        Due.due("1 harder", x.rock(1, 7), 19);
        Due.due("to 9", x.rock(1, 9), 17);
        Due.refused(x, -1, "rock", 1, 9);
        Due.refused(x, -1, "rock", 1, 10);
        Due.refused(x, -1, "rock", 0, 0);
        Due.refused(x, -1, "rock", 0, -1);
        Due.due("from none", x.rock(0, 1), 16);
        Due.due("to 9", x.rock(0, 9), 8);
        Due.refused(x, -1, "rock", 2, 9);
        Due.due("as much SUGAR as there is", x.rock(2, 8), 0);
        Due.refused(x, -1, "rock", 2, 9);
        x = Due.made(TOWN, null);
        x.day();
        Due.due("in the RIVER", x.count(10), 12);
        Due.refused(x, -1, "rock", 2, 1);
        Due.refused(x, -1, "rock", 3, 9);
    }

    private static void ice() {
        Doc.terms("ICE (on so many DAYS from now, 1 to 9, in place of what it was).");
        ToffeeTown x = Due.made(TOWN, null);
        Due.refused(x, -1, "ice", 0);
        Due.refused(x, -1, "ice", -1);
        Due.refused(x, -1, "ice", 10);
        Due.answers(x, 0, "ice", 9);
        Due.answers(x, 9, "ice", 1);
        Due.answers(x, 1, "count", 9);
        Due.answers(x, 1, "count", 7);
        x.day();
        Due.answers(x, 4, "count", 7);
        x.ice(9);
        for (int day = 0; day < 9; day++) {
            Due.answers(x, 1, "count", 7);
            x.day();
        }
        Due.answers(x, 4, "count", 7);
        Due.answers(x, 0, "count", 9);
    }

    private static void twenty() {
        Doc.terms("The last 20 ACTS can be UNDONE, the last first.");
        ToffeeTown x = Due.made("town 60 0 0;heat 1;house 0", null);
        for (int act = 0; act < 19; act++) {
            x.day();
        }
        Due.answers(x, 19, "count", 13);
        x.day();
        Due.answers(x, 20, "count", 13);
        x.ice(3);
        Due.answers(x, 20, "count", 13);
        Due.answers(x, 19, "undo");
        Due.due("the last first: no ice", x.count(9), 0);
        Due.due("DAY", x.count(6), 20);
        for (int more = 18; more >= 0; more--) {
            Due.answers(x, more, "undo");
            Due.due("DAY", x.count(6), more + 1);
            Due.due("PLACE", x.house(0, 0), more + 1);
        }
        Due.refused(x, -2, "undo");
        Due.due("the 21st ACT stays", x.count(6), 1);
        // What was undone is no ACT more
        x.day();
        x.undo();
        Due.refused(x, -2, "undo");
    }
}
