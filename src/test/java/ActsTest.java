/** Promises 10 to 14: crack, pour, rock, ice, undo. */
public final class ActsTest {
    public static void main(String[] args) {
        crack();
        pour();
        rock();
        ice();
        undo();
        twenty();
        Due.end();
    }

    private static final String TOWN = "town 10 20 4;heat 4;house 0;house 3;house 7;house 9;join 0 1 3;rock 1 6";

    private static void crack() {
        ToffeeTown x = Due.made(TOWN, null);
        Due.due("crack(0, 0)", x.crack(0, 0), -1);
        Due.due("crack(0, 2)", x.crack(0, 2), -1);
        Due.due("crack(0, 4)", x.crack(0, 4), -1);
        Due.due("crack(-1, 0)", x.crack(-1, 0), -1);
        Due.due("nothing happened", x.count(13), 0);
        Due.due("crack(1, 0)", x.crack(1, 0), 3);
        Due.due("pourOf(0, 1)", x.pourOf(0, 1), 0);
        Due.due("pours", x.house(1, 2), 0);
        Due.due("SUGAR", x.count(8), 20);
        Due.due("once", x.crack(0, 1), -1);
        Due.due("ACTS", x.count(13), 1);
    }

    private static void pour() {
        ToffeeTown x = Due.made(TOWN, null);
        Due.due("there is one", x.pour(0, 1, 1), -1);
        Due.due("4 apart", x.pour(1, 2, 1), -1);
        Due.due("HARD 0", x.pour(2, 3, 0), -1);
        Due.due("HARD 10", x.pour(2, 3, 10), -1);
        Due.due("no such HOUSE", x.pour(2, 4, 1), -1);
        Due.due("no such HOUSE", x.pour(-1, 2, 1), -1);
        Due.due("one alone", x.pour(2, 2, 1), -1);
        Due.due("ACTS", x.count(13), 0);
        Due.due("pour(3, 2, 9)", x.pour(3, 2, 9), 11);
        Due.due("pourOf(2, 3)", x.pourOf(2, 3), 9);
        x.crack(2, 3);
        x.crack(0, 1);
        Due.due("3 apart", x.pour(0, 1, 9), 2);
        Due.due("less SUGAR", x.pour(2, 3, 3), -1);
        Due.due("as much SUGAR", x.pour(2, 3, 2), 0);
        Due.due("ACTS", x.count(13), 5);
        x = Due.made(TOWN, null);
        x.day();
        Due.due("in the RIVER", x.count(10), 12);
        Due.due("both in the RIVER", x.pour(2, 3, 1), -1);
        x = Due.made("town 10 20 4;heat 4;house 9;house 8;rock 1 9", null);
        x.day();
        Due.due("one in the RIVER", x.pour(0, 1, 1), -1);
        Due.due("one in the RIVER", x.pour(1, 0, 1), -1);
    }

    private static void rock() {
        ToffeeTown x = Due.made(TOWN, null);
        Due.due("no such HOUSE", x.rock(4, 1), -1);
        Due.due("no such HOUSE", x.rock(-1, 1), -1);
        Due.due("as it was", x.rock(1, 6), -1);
        Due.due("softer", x.rock(1, 5), -1);
        Due.due("none", x.rock(0, 0), -1);
        Due.due("below none", x.rock(0, -1), -1);
        Due.due("beyond 9", x.rock(0, 10), -1);
        Due.due("ACTS", x.count(13), 0);
        Due.due("rock(1, 9)", x.rock(1, 9), 17);
        Due.due("ROCK", x.house(1, 1), 9);
        Due.due("rock(0, 9)", x.rock(0, 9), 8);
        Due.due("less SUGAR", x.rock(2, 9), -1);
        Due.due("as much SUGAR", x.rock(2, 8), 0);
        Due.due("ACTS", x.count(13), 3);
        Due.due("without SUGAR", x.rock(3, 1), -1);
        Due.undoAll(x);
        x.day();
        Due.due("in the RIVER", x.rock(2, 1), -1);
        Due.due("not in the RIVER", x.rock(0, 1), 19);
    }

    private static void ice() {
        Due.due("without a TOWN", new ToffeeTown().ice(1), -1);
        ToffeeTown x = Due.made(TOWN, null);
        Due.due("ice(0)", x.ice(0), -1);
        Due.due("ice(10)", x.ice(10), -1);
        Due.due("ice(-1)", x.ice(-1), -1);
        Due.due("ACTS", x.count(13), 0);
        Due.due("ice(9)", x.ice(9), 0);
        Due.due("in place of it", x.ice(2), 9);
        Due.due("HEAT", x.count(7), 1);
        Due.due("pour of 3 holds", x.house(0, 3), 3);
        Due.due("day", x.day(), 2);
        Due.due("ice", x.count(9), 1);
        Due.due("HEAT", x.count(7), 1);
        x.day();
        Due.due("ice", x.count(9), 0);
        Due.due("HEAT", x.count(7), 4);
        x.day();
        Due.due("ice", x.count(9), 0);
        x = Due.made("town 10 20 4;heat 2", null);
        Due.due("ice(1)", x.ice(1), 0);
        Due.due("0 at least", x.count(7), 0);
    }

    private static void undo() {
        ToffeeTown x = Due.made(TOWN, "pour 1");
        Due.due("none", x.undo(), -2);
        x.ice(1);
        x.crack(0, 1);
        x.pour(0, 1, 2);
        x.rock(3, 2);
        x.day();
        x.note(0, 0, 0);
        x.seed(5);
        x.force(-1);
        Due.due("HARD", x.pourOf(0, 1), 3);
        Due.due("SUGAR", x.count(8), 15);
        Due.due("undo day", x.undo(), 4);
        Due.due("DAY", x.count(6), 0);
        Due.due("ice", x.count(9), 1);
        Due.due("SUGAR", x.count(8), 16);
        Due.due("HARD", x.pourOf(0, 1), 2);
        Due.due("PLACES", x.count(11), 19);
        Due.due("undo rock", x.undo(), 3);
        Due.due("ROCK", x.house(3, 1), 0);
        Due.due("SUGAR", x.count(8), 18);
        Due.due("undo pour", x.undo(), 2);
        Due.due("HARD", x.pourOf(0, 1), 0);
        Due.due("SUGAR", x.count(8), 20);
        Due.due("undo crack", x.undo(), 1);
        Due.due("HARD", x.pourOf(0, 1), 3);
        Due.due("undo ice", x.undo(), 0);
        Due.due("ice", x.count(9), 0);
        Due.due("none", x.undo(), -2);
        Due.due("NOTES stay", x.count(12), 1);
        Due.due("x stays", x.count(14), 5);
        Due.due("the RULE IN FORCE stays", x.count(5), -1);
    }

    private static void twenty() {
        ToffeeTown x = Due.made("town 60 0 0;heat 1;house 0", null);
        for (int day = 1; day <= 27; day++) {
            x.day();
            Due.due("ACTS", x.count(13), Math.min(20, day));
        }
        for (int more = 19; more >= 0; more--) {
            Due.due("undo", x.undo(), more);
            Due.due("DAY", x.count(6), 7 + more);
            Due.due("PLACE", x.house(0, 0), 7 + more);
        }
        Due.due("the 21st", x.undo(), -2);
        x.day();
        Due.due("ACTS", x.count(13), 1);
        Due.due("undo", x.undo(), 0);
        Due.due("DAY", x.count(6), 7);
    }
}
