/** Promises 7 and 8: house and pourOf. */
public final class HouseTest {
    public static void main(String[] args) {
        ToffeeTown x = Due.made("town 30 20 1;heat 3;heat 5;house 0;house 1;house 2;house 3;join 0 1 4;join 2 1 3;join 3 1 6;rock 3 4;rock 2 9", null);
        int[] places = {0, 1, 2, 3};
        int[] rocks = {0, 0, 9, 4};
        int[] pours = {2, 13, 2, 2};
        int[] blocks = {11, 11, 4, 11};
        for (int house = 0; house < 4; house++) {
            Due.due("PLACE of " + house, x.house(house, 0), places[house]);
            Due.due("ROCK of " + house, x.house(house, 1), rocks[house]);
            Due.due("pours of " + house, x.house(house, 2), pours[house]);
            Due.due("BLOCK of " + house, x.house(house, 3), blocks[house]);
            Due.due("FAST of " + house, x.house(house, 4), 1);
        }
        Due.due("pourOf(0, 1)", x.pourOf(0, 1), 4);
        Due.due("pourOf(1, 0)", x.pourOf(1, 0), 4);
        Due.due("pourOf(1, 2)", x.pourOf(1, 2), 3);
        Due.due("pourOf(0, 3)", x.pourOf(0, 3), 0);
        wrong(x);
        x.day();
        // HEAT 5: the pour of 6 alone holds, and the ROCK of 9
        Due.due("BLOCK of 0", x.house(0, 3), 1);
        Due.due("BLOCK of 1", x.house(1, 3), 10);
        Due.due("FAST of 1", x.house(1, 4), 0);
        Due.due("FAST of 2", x.house(2, 4), 1);
        x.ice(1);
        // HEAT 2
        Due.due("BLOCK of 0 on ice", x.house(0, 3), 15);
        Due.due("FAST of 0 on ice", x.house(0, 4), 1);
        inTheRiver();
        Due.end();
    }

    private static void wrong(ToffeeTown x) {
        for (int what = -1; what <= 5; what++) {
            Due.due("house(4, " + what + ")", x.house(4, what), -1);
            Due.due("house(-1, " + what + ")", x.house(-1, what), -1);
        }
        Due.due("house(0, 5)", x.house(0, 5), -1);
        Due.due("house(0, -1)", x.house(0, -1), -1);
        Due.due("house(MIN, MAX)", x.house(Integer.MIN_VALUE, Integer.MAX_VALUE), -1);
        Due.due("pourOf(1, 1)", x.pourOf(1, 1), -1);
        Due.due("pourOf(4, 1)", x.pourOf(4, 1), -1);
        Due.due("pourOf(1, 4)", x.pourOf(1, 4), -1);
        Due.due("pourOf(-1, 1)", x.pourOf(-1, 1), -1);
    }

    private static void inTheRiver() {
        ToffeeTown x = Due.made("town 5 0 0;heat 4;house 4;house 0;join 0 1 4;rock 0 4", null);
        Due.due("day", x.day(), 2);
        Due.due("PLACE", x.house(0, 0), 5);
        Due.due("ROCK", x.house(0, 1), 0);
        Due.due("pours", x.house(0, 2), 0);
        Due.due("BLOCK", x.house(0, 3), 1);
        Due.due("FAST", x.house(0, 4), 0);
        Due.due("pourOf", x.pourOf(1, 0), 0);
    }
}
