/** Promises 15, 16, 18 and 23: ahead, down, blocks, order. */
public final class AheadTest {
    public static void main(String[] args) {
        ToffeeTown x = Due.made("town 10 3 0;heat 2;heat 0;house 1;house 8;house 4;rock 2 9;join 0 1 1", "pour 1");
        ahead(x);
        downAndOrder(x);
        hundredDays();
        blocks();
        Due.due("nothing changes: DAY", x.count(6), 1);
        Due.end();
    }

    private static void ahead(ToffeeTown x) {
        int[] places = {1, 3, 3, 5, 5, 7, 7, 9, 9, 10, 10};
        for (int n = 0; n < places.length; n++) {
            Due.due("ahead(0, " + n + ", 0)", x.ahead(0, n, 0), places[n]);
        }
        Due.due("ahead(1, 1, 0)", x.ahead(1, 1, 0), 10);
        Due.due("ahead(2, 100, 0)", x.ahead(2, 100, 0), 4);
        Due.due("ahead(-7, 0, 1)", x.ahead(-7, 0, 1), 0);
        Due.due("ahead(99, 1, 1)", x.ahead(99, 1, 1), 1);
        Due.due("ahead(0, 9, 1)", x.ahead(0, 9, 1), 2);
        Due.due("ahead(0, 0, 2)", x.ahead(0, 0, 2), 3);
        Due.due("ahead(6, 1, 2)", x.ahead(6, 1, 2), 2);
        Due.due("ahead(6, 100, 2)", x.ahead(6, 100, 2), 2);
        Due.due("ahead(0, 101, 0)", x.ahead(0, 101, 0), -1);
        Due.due("ahead(0, -1, 1)", x.ahead(0, -1, 1), -1);
        Due.due("ahead(3, 0, 0)", x.ahead(3, 0, 0), -1);
        Due.due("ahead(-1, 0, 0)", x.ahead(-1, 0, 0), -1);
        Due.due("ahead(0, 0, 3)", x.ahead(0, 0, 3), -1);
        Due.due("ahead(0, 0, -1)", x.ahead(0, 0, -1), -1);
        Due.due("without a TOWN", new ToffeeTown().ahead(0, 0, 1), -1);
        Due.due("without a TOWN", new ToffeeTown().ahead(0, 0, 2), -1);
        Due.due("without HOUSES", Due.made("town 5 7 0", null).ahead(0, 3, 2), 7);
        Due.due("nothing changes: SUGAR", x.count(8), 3);
        x.force(-1);
        Due.due("without a RULE", x.ahead(0, 1, 2), 3);
        x.force(0);
        x.ice(1);
        Due.due("on ice", x.ahead(0, 1, 0), 1);
        Due.due("behind the ice", x.ahead(0, 3, 0), 2);
        x.undo();
    }

    private static void downAndOrder(ToffeeTown x) {
        for (int times = 0; times < 2; times++) {
            Due.due("down(0)", x.down(0), 9);
            Due.due("down(1)", x.down(1), 1);
            Due.due("down(2)", x.down(2), -2);
            Due.due("order(0)", x.order(0), 1);
            Due.due("order(1)", x.order(1), 0);
            Due.due("order(2)", x.order(2), 2);
            // A DAY on, DOWN is the same DAY, and who is in the RIVER is so on this one.
            if (times == 0) {
                x.day();
            }
        }
        Due.due("down(3)", x.down(3), -1);
        Due.due("down(-1)", x.down(-1), -1);
        Due.due("order(3)", x.order(3), -1);
        Due.due("order(-1)", x.order(-1), -1);
        ToffeeTown y = Due.made("town 10 0 0;heat 1;house 0;house 9;house 3;house 9;house 5;rock 0 9;rock 2 9", null);
        int[] order = {3, 0, 4, 1, 2};
        for (int house = 0; house < 5; house++) {
            Due.due("order(" + house + ")", y.order(house), order[house]);
        }
    }

    private static void hundredDays() {
        String eleven = "town 20 0 0" + Due.times(";heat 0", 10) + ";heat 1;house 11;house 10";
        ToffeeTown x = Due.made(eleven, null);
        Due.due("on the hundredth DAY", x.down(0), 99);
        Due.due("behind it", x.down(1), -2);
        Due.due("never", x.order(1), 1);
        String twelve = "town 20 0 0;heat 0;heat 0;heat 0;heat 1" + Due.times(";heat 0", 8) + ";house 11;house 12;house 10";
        x = Due.made(twelve, null);
        Due.due("at the begin of the 101st", x.down(0), -2);
        Due.due("eight times", x.down(1), 88);
        Due.due("order of who never is", x.order(0), 1);
        Due.due("order of who never is", x.order(2), 2);
        Due.due("ahead sees the 101st", x.ahead(0, 100, 0), 20);
        x.day();
        Due.due("a DAY on it is the hundredth", x.down(0), 100);
        Due.due("the same DAY", x.down(1), 88);
    }

    private static void blocks() {
        ToffeeTown x = Due.made("town 10 0 0;heat 3;house 0;house 1;house 2;house 9;house 5;join 0 2 4;join 1 4 5;join 0 4 3", null);
        Due.due("blocks(0)", x.blocks(0), 3);
        Due.due("blocks(1)", x.blocks(1), 5);
        Due.due("blocks(2)", x.blocks(2), -1);
        Due.due("blocks(-1)", x.blocks(-1), -1);
        x.ice(1);
        Due.due("on ice", x.blocks(0), 2);
        Due.due("on ice", x.blocks(1), 23);
        x.undo();
        x.day();
        Due.due("not in the RIVER", x.blocks(0), 2);
        x.crack(0, 2);
        Due.due("blocks(0)", x.blocks(0), 3);
        Due.due("blocks(1)", x.blocks(1), 18);
        for (int day = 0; day < 5; day++) {
            x.day();
        }
        Due.due("all in the RIVER", x.blocks(0), 0);
        Due.due("all in the RIVER", x.blocks(1), 0);
        Due.due("without HOUSES", Due.made("town 5 0 0", null).blocks(0), 0);
        Due.due("without HOUSES", Due.made("town 5 0 0", null).blocks(1), 0);
        Due.due("without a TOWN", new ToffeeTown().blocks(0), -1);
    }
}
