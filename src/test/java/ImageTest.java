/** Promises 31 to 33: count, image, back. */
public final class ImageTest {
    public static void main(String[] args) {
        count();
        images();
        emptyImage();
        Due.end();
    }

    private static void counts(ToffeeTown x, int... want) {
        for (int what = 0; what < want.length; what++) {
            Due.due("count(" + what + ")", x.count(what), want[what]);
        }
    }

    private static void count() {
        ToffeeTown x = Due.made("town 10 20 4;heat 3;heat 7;house 8;house 3;house 9;join 0 1 2;rock 1 6", "pour 1 if one=5");
        counts(x, 10, 4, 2, 3, 1, 0, 0, 3, 20, 0, 0, 20, 0, 0, 0, 0);
        x.ice(2);
        x.crack(0, 1);
        x.pour(0, 2, 4);
        x.note(5, 0, 10);
        x.seed(99);
        x.feed(1, 2, 3, 4, 5);
        counts(x, 10, 4, 2, 3, 1, 0, 0, 0, 16, 2, 0, 20, 1, 3, 99, 20);
        x.day();
        x.day();
        x.force(-1);
        // DAY 1 has HEAT 4: the pour of 4 does not hold
        counts(x, 10, 4, 2, 3, 1, -1, 2, 3, 16, 0, 5, 23, 1, 5, 99, 20);
        Due.due("count(16)", x.count(16), -1);
        Due.due("count(-1)", x.count(-1), -1);
        Due.due("count(MIN)", x.count(Integer.MIN_VALUE), -1);
    }

    private static void images() {
        ToffeeTown x = Due.made("town 10 20 4;heat 3;heat 7;house 8;house 3;house 9;join 0 1 2;rock 1 6", "pour 1");
        Due.due("never made", x.back(0), -1);
        x.note(0, 0, 8);
        x.seed(42);
        x.day();
        x.ice(3);
        Due.due("image(2)", x.image(2), 1);
        Due.due("image(4)", x.image(4), -1);
        Due.due("image(-1)", x.image(-1), -1);
        int[] was = new int[16];
        for (int what = 0; what < 16; what++) {
            was[what] = x.count(what);
        }
        x.day();
        x.undo();
        x.undo();
        x.undo();
        x.crack(0, 1);
        x.force(-1);
        x.seed(7);
        x.note(-1, 0, 0);
        Due.town(x, "town 60 1 1;house 5");
        Due.rule(x, "pour 2");
        x.feed(1, 2, 3, 4, 5);
        Due.due("image(0)", x.image(0), 0);
        Due.due("never made", x.back(1), -1);
        Due.due("back(4)", x.back(4), -1);
        Due.due("back(-1)", x.back(-1), -1);
        Due.due("back(2)", x.back(2), 1);
        was[4] = 2;
        was[15] = 20;
        counts(x, was);
        Due.due("undo", x.undo(), 1);
        Due.due("ice", x.count(9), 0);
        Due.due("undo", x.undo(), 0);
        Due.due("PLACE", x.house(0, 0), 8);
        Due.due("HARD", x.pourOf(0, 1), 2);
        Due.due("back(2) again", x.back(2), 1);
        counts(x, was);
        Due.due("NOTES too", x.ruled(0), 3);
        Due.due("back(0)", x.back(0), 0);
        Due.due("HOUSES", x.count(3), 1);
        Due.due("image(2) anew", x.image(2), 0);
        x.day();
        Due.due("back(2)", x.back(2), 0);
        Due.due("HILL", x.count(0), 60);
    }

    private static void emptyImage() {
        ToffeeTown x = new ToffeeTown();
        Due.due("image(3)", x.image(3), 0);
        Due.town(x, "town 60 1 1;heat 1;house 5");
        Due.rule(x, "pour 2");
        x.force(0);
        x.day();
        Due.due("back(3)", x.back(3), 0);
        counts(x, 0, 0, 0, 0, 1, -1, 0, 0, 0, 0, 0, 0, 0, 0, 0, 0);
        Due.due("no TOWN", x.day(), -1);
        Due.due("no TOWN", x.blocks(0), -1);
        Due.due("no HOUSE", x.house(0, 0), -1);
        Due.due("undo", x.undo(), -2);
    }
}
