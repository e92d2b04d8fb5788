/** Promises 17 and 25: part and parts. */
public final class PartTest {
    public static void main(String[] args) {
        part();
        parts();
        Due.end();
    }

    private static void parted(ToffeeTown x, int one, int other, int many, int side) {
        Due.due("part(" + one + ", " + other + ", 0)", x.part(one, other, 0), many);
        Due.due("part(" + one + ", " + other + ", 1)", x.part(one, other, 1), side);
    }

    private static void part() {
        String houses = ";house 0;house 1;house 2;house 3;house 4";
        ToffeeTown x = Due.made("town 60 0 0;heat 9" + houses + ";join 0 1 1;join 1 2 1;join 2 3 1;join 3 0 9", null);
        parted(x, 0, 2, 2, 1);
        parted(x, 2, 0, 2, 4);
        parted(x, 0, 1, 2, 1);
        parted(x, 0, 4, 0, 15);
        parted(x, 4, 0, 0, 16);
        x = Due.made("town 60 0 0;heat 9" + houses + ";join 0 1 1;join 0 2 1;join 1 2 1;join 2 3 1", null);
        parted(x, 0, 3, 1, 7);
        parted(x, 3, 0, 1, 8);
        parted(x, 0, 1, 2, 1);
        parted(x, 2, 1, 2, 12);
        x = Due.made("town 60 0 0;heat 9" + houses + ";join 0 1 1;join 1 2 1;join 2 3 1", null);
        parted(x, 0, 3, 1, 1);
        parted(x, 3, 0, 1, 8);
        x.crack(1, 2);
        parted(x, 0, 3, 0, 3);
        Due.due("part(0, 0, 0)", x.part(0, 0, 0), -1);
        Due.due("part(0, 5, 0)", x.part(0, 5, 0), -1);
        Due.due("part(-1, 0, 0)", x.part(-1, 0, 0), -1);
        Due.due("part(0, 1, 2)", x.part(0, 1, 2), -1);
        Due.due("part(0, 1, -1)", x.part(0, 1, -1), -1);
        Due.due("nothing changes", x.count(13), 1);
        Due.due("without a TOWN", new ToffeeTown().part(0, 1, 0), -1);
    }

    private static void shares(ToffeeTown x, int treacle, int... want) {
        for (int house = 0; house < want.length; house++) {
            Due.due("parts(" + treacle + ", " + house + ")", x.parts(treacle, house), want[house]);
        }
    }

    private static void parts() {
        ToffeeTown x = Due.made("town 60 0 0;house 0;house 1;house 2;join 0 1 1;join 1 2 1;join 0 2 1", null);
        shares(x, 10, 4, 3, 3);
        shares(x, 11, 4, 4, 3);
        shares(x, 12, 4, 4, 4);
        shares(x, 0, 0, 0, 0);
        shares(x, 1, 1, 0, 0);
        x = Due.made("town 60 0 0;house 0;house 1;house 2;house 3;rock 0 1;rock 1 2;rock 2 4", null);
        shares(x, 10, 1, 3, 6, 0);
        shares(x, 9999, 1428, 2857, 5714, 0);
        shares(x, 1, 0, 0, 1, 0);
        x = Due.made("town 60 0 0;house 0;house 1;house 2;join 1 2 9;rock 2 3", null);
        shares(x, 10, 0, 4, 6);
        Due.due("parts(10000, 0)", x.parts(10000, 0), -1);
        Due.due("parts(-1, 0)", x.parts(-1, 0), -1);
        Due.due("parts(1, 3)", x.parts(1, 3), -1);
        Due.due("parts(1, -1)", x.parts(1, -1), -1);
        x = Due.made("town 60 0 0;house 0;house 1", null);
        shares(x, 9999, 0, 0);
        Due.due("without a TOWN", new ToffeeTown().parts(1, 0), -1);
    }
}
