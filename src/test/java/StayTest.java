/** Promises 19 to 21: stay, iced, stood. */
public final class StayTest {
    public static void main(String[] args) {
        stay();
        iced();
        stood();
        Due.end();
    }

    private static void stay() {
        ToffeeTown x = Due.made("town 10 0 0;heat 2;heat 5;heat 9;house 1;house 3;join 0 1 9;rock 0 9", null);
        Due.due("stay(0, 1)", x.stay(0, 1), 3);
        Due.due("stay(0, 2)", x.stay(0, 2), 6);
        Due.due("stay(0, 3)", x.stay(0, 3), -2);
        Due.due("held by the other", x.stay(1, 2), 0);
        Due.due("stay(1, 3)", x.stay(1, 3), -2);
        Due.due("stay(0, 0)", x.stay(0, 0), -1);
        Due.due("stay(0, 61)", x.stay(0, 61), -1);
        Due.due("stay(2, 1)", x.stay(2, 1), -1);
        Due.due("stay(-1, 1)", x.stay(-1, 1), -1);
        Due.due("nothing changes", x.house(0, 1), 9);
        x = Due.made("town 10 0 0;heat 8;house 1;house 9", null);
        Due.due("9 at most", x.stay(0, 60), 9);
        x.day();
        Due.due("in the RIVER it stays", x.stay(1, 60), 0);
        x = Due.made("town 10 1 0;heat 4;house 1;house 2;join 0 1 4;rock 1 9", "pour 1");
        Due.due("the guild hardens", x.stay(0, 60), 0);
        x.force(-1);
        Due.due("without a RULE", x.stay(0, 60), 5);
        x.ice(9);
        Due.due("on ice", x.stay(0, 9), 0);
        Due.due("behind the ice", x.stay(0, 10), 5);
        Due.due("without a TOWN", new ToffeeTown().stay(0, 1), -1);
    }

    private static void iced() {
        ToffeeTown x = Due.made("town 10 0 0;heat 4;house 8", null);
        Due.due("iced(1)", x.iced(1), 1);
        Due.due("iced(2)", x.iced(2), -2);
        Due.due("iced(0)", x.iced(0), -1);
        Due.due("iced(61)", x.iced(61), -1);
        x = Due.made("town 10 0 0;heat 3;house 6;house 9", null);
        x.day();
        Due.due("one is in the RIVER", x.count(10), 2);
        x.ice(9);
        for (int n = 1; n <= 9; n++) {
            Due.due("iced(" + n + ")", x.iced(n), n);
        }
        Due.due("iced(10)", x.iced(10), -2);
        Due.due("nothing changes", x.count(9), 9);
        x = Due.made("town 10 0 0;heat 3;house 6", null);
        Due.due("iced(1)", x.iced(1), 0);
        Due.due("iced(10)", x.iced(10), 9);
        Due.due("iced(11)", x.iced(11), -2);
        Due.due("without HOUSES", Due.made("town 5 0 0;heat 9", null).iced(60), 0);
        Due.due("without a TOWN", new ToffeeTown().iced(1), -1);
    }

    private static void stood(ToffeeTown x, int house, int place, int n, int many, int least) {
        Due.due("stood(" + house + ", " + place + ", " + n + ", 0)", x.stood(house, place, n, 0), many);
        Due.due("stood(" + house + ", " + place + ", " + n + ", 1)", x.stood(house, place, n, 1), least);
    }

    private static void stood() {
        ToffeeTown x = Due.made("town 10 0 5;heat 2;house 0;house 4;rock 1 9", null);
        stood(x, 0, 4, 1, 1, 2);
        stood(x, 0, 4, 2, 2, 0);
        stood(x, 0, 4, 30, 2, 0);
        stood(x, 0, 10, 1, 2, 8);
        stood(x, 0, 10, 30, 8, 1);
        stood(x, 0, 0, 1, 0, -2);
        stood(x, 1, 4, 30, 1, 4);
        stood(x, 1, 0, 30, 1, 0);
        stood(x, 1, 10, 1, 0, -2);
        Due.due("nothing changes", x.house(0, 0), 0);
        Due.due("stood(0, 11, 1, 0)", x.stood(0, 11, 1, 0), -1);
        Due.due("stood(0, -1, 1, 0)", x.stood(0, -1, 1, 0), -1);
        Due.due("stood(0, 0, 0, 0)", x.stood(0, 0, 0, 0), -1);
        Due.due("stood(0, 0, 31, 0)", x.stood(0, 0, 31, 0), -1);
        Due.due("stood(2, 0, 1, 0)", x.stood(2, 0, 1, 0), -1);
        Due.due("stood(-1, 0, 1, 0)", x.stood(-1, 0, 1, 0), -1);
        Due.due("stood(0, 0, 1, 2)", x.stood(0, 0, 1, 2), -1);
        Due.due("stood(0, 0, 1, -1)", x.stood(0, 0, 1, -1), -1);
        x = Due.made("town 10 0 0;heat 2;house 9", null);
        x.day();
        stood(x, 0, 5, 2, 1, 1);
        stood(x, 0, 10, 1, 2, 8);
        Due.due("without a TOWN", new ToffeeTown().stood(0, 0, 1, 0), -1);
    }
}
