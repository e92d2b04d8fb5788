/** Promise 22: row. */
public final class RowTest {
    public static void main(String[] args) {
        ToffeeTown x = Due.made("town 20 2 0;heat 3;house 0;house 5;rock 1 9;join 0 1 3", "pour 1");
        row(x, 1, 5, 1, -2, -2);
        row(x, 2, 5, 1, -1, -2);
        row(x, 3, 5, 1, -1, -1);
        Due.due("nothing changes", x.count(8), 2);
        wrong(x);
        x = Due.made("town 20 2 0;heat 3;house 0;house 5;rock 1 9;join 0 1 2", "pour 1");
        row(x, 1, 8, -1, -2, -2);
        row(x, 2, 8, 1, 1, -2);
        row(x, 3, 8, 1, 1, -1);
        x = Due.made("town 20 1 0;heat 3;house 0;house 5;rock 1 9;join 0 1 2", "pour 1");
        row(x, 2, 11, -1, -1, -2);
        x = Due.made("town 20 0 0;heat 3;house 0;house 5;rock 1 9;join 0 1 3", "pour 1");
        row(x, 1, 8, -1, -2, -2);
        x = Due.made("town 20 9 0;heat 9;house 0;house 5;rock 1 9;join 0 1 9", null);
        row(x, 1, 23, -1, -2, -2);
        // Each of these two saves as much: of several the first, by the one, then by the other
        x = Due.made("town 60 9 0;heat 3;house 0;house 5;house 9;house 30;rock 1 9;rock 2 9;join 0 2 3;join 0 1 3;join 3 1 3", null);
        row(x, 1, 47, 1, -2, -2);
        row(x, 2, 47, 1, 11, -2);
        row(x, 3, 47, 1, 11, -1);
        // A HOUSE without a pour goes on, none is in the RIVER for less
        x = Due.made("town 5 9 0;heat 4;heat 0;house 4;house 3;join 0 1 4", null);
        row(x, 1, 10, -1, -2, -2);
        x = Due.made("town 5 9 0;heat 4", null);
        row(x, 3, 0, -1, -1, -1);
        Due.due("without a TOWN", new ToffeeTown().row(1, 0), -3);
        Due.end();
    }

    private static void row(ToffeeTown x, int n, int... want) {
        for (int what = 0; what < 4; what++) {
            Due.due("row(" + n + ", " + what + ")", x.row(n, what), want[what]);
        }
    }

    private static void wrong(ToffeeTown x) {
        Due.due("row(0, 0)", x.row(0, 0), -3);
        Due.due("row(4, 0)", x.row(4, 0), -3);
        Due.due("row(1, 4)", x.row(1, 4), -3);
        Due.due("row(1, -1)", x.row(1, -1), -3);
        Due.due("row(-1, 9)", x.row(-1, 9), -3);
    }
}
