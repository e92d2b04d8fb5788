/** Promises 29 and 30: seed and summers. */
public final class SummersTest {
    public static void main(String[] args) {
        seed();
        noDraws();
        allDrawn();
        wrong();
        Due.end();
    }

    private static void seed() {
        ToffeeTown x = new ToffeeTown();
        Due.due("seed(5)", x.seed(5), 0);
        Due.due("seed(-1)", x.seed(-1), -1);
        Due.due("seed(MIN)", x.seed(Integer.MIN_VALUE), -1);
        Due.due("x", x.count(14), 5);
        Due.due("seed(MAX)", x.seed(Integer.MAX_VALUE), 5);
        Due.due("seed(0)", x.seed(0), Integer.MAX_VALUE);
        Due.due("x", x.count(14), 0);
    }

    private static void noDraws() {
        ToffeeTown x = Due.made("town 20 9 3;heat 2;heat 4;house 0;house 11;house 3;join 0 1 3;rock 2 9", "pour 1");
        x.ice(2);
        for (int n = 1; n <= 60; n++) {
            int places = x.ahead(0, n, 0) + x.ahead(1, n, 0) + x.ahead(2, n, 0);
            Due.due("summers(1, " + n + ", 0, 1)", x.summers(1, n, 0, 1), places);
            Due.due("summers(10, " + n + ", 0, 1)", x.summers(10, n, 0, 1), 10 * places);
            Due.due("summers(10, " + n + ", 0, 0)", x.summers(10, n, 0, 0), 10 * x.ahead(0, n, 1));
        }
        Due.due("x as it was", x.count(14), 0);
    }

    /** One HOUSE without a pour goes down by the HEAT, whatever it is. */
    private static void allDrawn() {
        for (int p : new int[] {100, 37, 1}) {
            ToffeeTown x = Due.made("town 60 9 3;heat 1;heat 4;house 0", null);
            x.seed(2147483647);
            x.ice(1);
            long draw = 2147483647L;
            int places = 0;
            int river = 0;
            for (int summer = 0; summer < 7; summer++) {
                int place = 0;
                for (int day = 0; day < 13; day++) {
                    draw = (draw * 1103515245L + 12345) % 2147483648L;
                    int heat = day == 0 ? 0 : day % 2 == 0 ? 1 : 4;
                    if (draw / 65536 % 100 < p) {
                        draw = (draw * 1103515245L + 12345) % 2147483648L;
                        heat = (int) (draw / 65536 % 10);
                    }
                    place = Math.min(60, place + heat);
                }
                places += place;
                river += place == 60 ? 1 : 0;
            }
            Due.due("summers(7, 13, " + p + ", 0)", x.summers(7, 13, p, 0), river);
            Due.due("summers(7, 13, " + p + ", 1)", x.summers(7, 13, p, 1), places);
            Due.due("x as it was", x.count(14), 2147483647);
            Due.due("nothing changes", x.count(6), 0);
        }
    }

    private static void wrong() {
        ToffeeTown x = Due.made("town 60 9 3;heat 1;heat 4;house 0", null);
        Due.due("summers(0, 1, 0, 0)", x.summers(0, 1, 0, 0), -1);
        Due.due("summers(11, 1, 0, 0)", x.summers(11, 1, 0, 0), -1);
        Due.due("summers(1, 0, 0, 0)", x.summers(1, 0, 0, 0), -1);
        Due.due("summers(1, 61, 0, 0)", x.summers(1, 61, 0, 0), -1);
        Due.due("summers(1, 1, -1, 0)", x.summers(1, 1, -1, 0), -1);
        Due.due("summers(1, 1, 101, 0)", x.summers(1, 1, 101, 0), -1);
        Due.due("summers(1, 1, 0, 2)", x.summers(1, 1, 0, 2), -1);
        Due.due("summers(1, 1, 0, -1)", x.summers(1, 1, 0, -1), -1);
        Due.due("without a TOWN", new ToffeeTown().summers(1, 1, 0, 0), -1);
        Due.due("without HOUSES", Due.made("town 5 0 0", null).summers(10, 60, 100, 1), 0);
    }
}
