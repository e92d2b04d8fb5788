/** Promise 24: rests. */
public final class RestsTest {
    public static void main(String[] args) {
        ToffeeTown x = Due.made("town 30 0 0;heat 3;house 0;house 10;rock 0 9", null);
        rests(x, 0, 1, 2, 1, 4, 4);
        rests(x, 1, 0, 2, 1, 4, 4);
        rests(x, 0, 1, 20, 1, 4, 4);
        Due.due("nothing changes", x.house(0, 1), 9);
        wrong(x);
        // One HOUSE alone has to pay for both
        x = Due.made("town 30 0 0;heat 3;house 0;house 10;join 0 1 9", null);
        rests(x, 0, 1, 2, 2, 0, 4);
        rests(x, 1, 0, 2, 2, 0, 4);
        // As dear as what it saves
        rests(x, 0, 1, 1, 3, 0, 0);
        x = Due.made("town 30 0 0;heat 9;house 0;house 10", null);
        rests(x, 0, 1, 1, 1, 0, 0);
        x = Due.made("town 5 0 0;heat 3;house 4;house 0", null);
        x.day();
        // The first is in the RIVER: no ROCK helps it
        rests(x, 0, 1, 1, 2, 0, 0);
        Due.due("without a TOWN", new ToffeeTown().rests(0, 1, 1, 0), -1);
        Due.end();
    }

    private static void rests(ToffeeTown x, int one, int other, int n, int many, int first, int second) {
        String call = "rests(" + one + ", " + other + ", " + n + ", ";
        Due.due(call + "0)", x.rests(one, other, n, 0), many);
        Due.due(call + "1)", x.rests(one, other, n, 1), first);
        Due.due(call + "2)", x.rests(one, other, n, 2), second);
    }

    private static void wrong(ToffeeTown x) {
        Due.due("rests(0, 0, 1, 0)", x.rests(0, 0, 1, 0), -1);
        Due.due("rests(0, 2, 1, 0)", x.rests(0, 2, 1, 0), -1);
        Due.due("rests(-1, 0, 1, 0)", x.rests(-1, 0, 1, 0), -1);
        Due.due("rests(0, 1, 0, 0)", x.rests(0, 1, 0, 0), -1);
        Due.due("rests(0, 1, 21, 0)", x.rests(0, 1, 21, 0), -1);
        Due.due("rests(0, 1, 1, 3)", x.rests(0, 1, 1, 3), -1);
        Due.due("rests(0, 1, 1, -1)", x.rests(0, 1, 1, -1), -1);
    }
}
