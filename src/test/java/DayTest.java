/** Promise 9: day, the going down, the sticking, and what the guild hardens. */
public final class DayTest {
    public static void main(String[] args) {
        goingDown();
        holding();
        river();
        sticking();
        hardening();
        whichTwo();
        values();
        tests();
        sums();
        lastDay();
        Due.end();
    }

    private static void places(ToffeeTown x, int... want) {
        for (int house = 0; house < want.length; house++) {
            Due.due("PLACE of " + house, x.house(house, 0), want[house]);
        }
    }

    private static void goingDown() {
        Due.due("without a TOWN", new ToffeeTown().day(), -1);
        ToffeeTown x = Due.made("town 20 0 5;heat 4;heat 1;heat 0;house 0;house 5;house 9;join 0 1 5", null);
        Due.due("day 0", x.day(), 3);
        places(x, 3, 8, 13);
        Due.due("DAY", x.count(6), 1);
        Due.due("day 1: two are too heavy", x.day(), 1);
        places(x, 3, 8, 14);
        Due.due("day 2: no HEAT", x.day(), 0);
        Due.due("HEATS come round", x.count(7), 4);
        Due.due("day 3", x.day(), 3);
        places(x, 6, 11, 18);
        Due.due("no HOUSES", Due.made("town 5 9 9;heat 9", "pour 1").day(), 0);
    }

    private static void holding() {
        ToffeeTown x = Due.made("town 20 0 5;heat 4;house 0;house 3;house 6;rock 0 4;rock 1 5;join 1 2 4", null);
        Due.due("as hard as HEAT holds not", x.day(), 2);
        places(x, 4, 3, 10);
        x = Due.made("town 20 0 5;heat 3;house 0;house 3;house 6;house 9;join 0 1 4;join 1 2 4;rock 2 4", null);
        Due.due("one to the next", x.day(), 1);
        places(x, 0, 3, 6, 12);
        x = Due.made("town 60 0 5;heat 7;house 0;house 10;house 20;house 30;house 40;house 50;join 0 5 8;join 5 1 8;join 1 4 8;join 2 4 8;join 2 3 8", null);
        Due.due("six in one", x.day(), 6);
        places(x, 2, 12, 22, 32, 42, 52);
    }

    private static void river() {
        ToffeeTown x = Due.made("town 10 0 5;heat 3;house 8;house 0;house 9;join 0 1 9;join 1 2 3", null);
        Due.due("day 0", x.day(), 3);
        places(x, 10, 2, 10);
        Due.due("no pour in the RIVER", x.pourOf(0, 1), 0);
        Due.due("nothing sticks in the RIVER", x.pourOf(0, 2), 0);
        Due.due("in the RIVER", x.count(10), 5);
        Due.due("day 1", x.day(), 1);
        places(x, 10, 5, 10);
        x.day();
        Due.due("the last one", x.day(), 1);
        Due.due("none is left", x.day(), 0);
    }

    private static void sticking() {
        ToffeeTown x = Due.made("town 20 0 5;heat 2;house 0;house 2;house 2;house 0;rock 1 9;rock 2 9;join 0 1 1", null);
        Due.due("day 0", x.day(), 2);
        places(x, 2, 2, 2, 2);
        Due.due("a pour that is there stays", x.pourOf(0, 1), 1);
        Due.due("one gone, one not", x.pourOf(0, 2), 5);
        Due.due("both gone", x.pourOf(0, 3), 5);
        Due.due("neither gone", x.pourOf(1, 2), 0);
        Due.due("one gone, one not", x.pourOf(1, 3), 5);
        Due.due("day 1", x.day(), 0);
        Due.due("neither gone", x.pourOf(1, 2), 0);
        x = Due.made("town 20 0 0;heat 2;house 0;house 2;rock 1 9", null);
        x.day();
        Due.due("STICK 0", x.pourOf(0, 1), 0);
        x = Due.made("town 20 0 7;heat 3;house 0;house 2;house 1;rock 1 9;join 0 2 9", null);
        Due.due("gone by two", x.day(), 2);
        places(x, 2, 2, 3);
        Due.due("gone by two sticks", x.pourOf(0, 1), 7);
    }

    private static void hardening() {
        ToffeeTown x = Due.made("town 20 2 0;heat 4;house 0;house 5;rock 1 9;join 0 1 4", "pour 1");
        Due.due("hardened ahead of the HEAT", x.day(), 0);
        Due.due("HARD", x.pourOf(0, 1), 5);
        Due.due("SUGAR", x.count(8), 1);
        x.day();
        x.day();
        Due.due("HARD while there is SUGAR", x.pourOf(1, 0), 6);
        Due.due("SUGAR", x.count(8), 0);
        x = Due.made("town 20 9 0;house 0;house 5;join 0 1 8", "pour 1");
        x.day();
        x.day();
        Due.due("9 at most", x.pourOf(0, 1), 9);
        Due.due("SUGAR", x.count(8), 8);
        x = Due.made("town 20 9 0;house 0;house 5;join 0 1 3", "pour 1");
        x.force(-1);
        x.day();
        Due.due("without a RULE", x.pourOf(0, 1), 3);
        x = Due.made("town 20 9 0;house 0;house 5;join 0 1 3", "pour 0");
        x.day();
        Due.due("not above 0", x.pourOf(0, 1), 3);
        x = Due.made("town 20 9 0;house 0;house 5;join 0 1 3", "pour 0-1");
        x.day();
        Due.due("below 0", x.pourOf(0, 1), 3);
        x = Due.made("town 20 9 0;house 0;house 5;join 0 1 3", "pour 5 if 1=2");
        x.day();
        Due.due("no CLAUSE holds", x.pourOf(0, 1), 3);
        x = Due.made("town 20 9 0;house 0;house 5", "pour 5");
        x.day();
        Due.due("no pour", x.pourOf(0, 1), 0);
        Due.due("SUGAR", x.count(8), 9);
    }

    /** The two that is hardened, 10 * one + other; -1: none. */
    private static int hardened(String rule) {
        ToffeeTown x = new ToffeeTown();
        Due.rule(x, rule);
        x.force(0);
        Due.town(x, "town 60 50 0;heat 0;heat 7;house 0;house 10;house 15;house 35;rock 1 4;rock 3 6;"
                + "join 0 1 2;join 1 2 5;join 0 3 5;join 3 2 3;join 0 2 9");
        int[] was = new int[100];
        for (int one = 0; one < 4; one++) {
            for (int other = one + 1; other < 4; other++) {
                was[10 * one + other] = x.pourOf(one, other);
            }
        }
        x.day();
        int found = -1;
        for (int one = 0; one < 4; one++) {
            for (int other = one + 1; other < 4; other++) {
                if (x.pourOf(one, other) == was[10 * one + other] + 1) {
                    found = found == -1 ? 10 * one + other : 1000;
                }
            }
        }
        return found;
    }

    private static void which(String rule, int want) {
        Due.due(rule, hardened(rule), want);
    }

    private static void whichTwo() {
        which("pour 1", 1);
        which("pour hard", 3);
        which("pour 10-hard", 1);
        which("pour 1 if one>0", 12);
        which("pour 1 if one=1 or one=2", 12);
        which("pour one", 23);
        which("pour other", 3);
        which("pour 10*one-other", 23);
        which("pour place", 23);
        which("pour placeo", 3);
        which("pour 100-placeo", 1);
        which("pour apart", 3);
        which("pour 100-apart", 12);
        which("pour rock", 12);
        which("pour rocko", 3);
        which("pour 10-rocko", 12);
        which("pour 1 if hard=9", -1);
        which("pour heat", -1);
        which("pour next-6", 1);
        which("pour sugar-49", 1);
        which("pour sugar-50", -1);
        which("pour day", -1);
        which("pour 1 if day=0 and heat=0 and next=7 and sugar=50", 1);
        which("pour 0-5+hard", -1);
    }

    private static void values() {
        ToffeeTown x = Due.made("town 20 50 0;heat 5;heat 2;house 0;house 5;rock 0 9;rock 1 9;join 0 1 1", "pour 1 if heat=2 and next=2 and day=0");
        x.ice(2);
        x.day();
        Due.due("heat on ice, next as told", x.pourOf(0, 1), 2);
        Due.rule(x, "pour 1 if heat=0 and next=5 and day=1 and sugar=49 and hard=2 and rock=9 and apart=5");
        x.force(1);
        x.day();
        Due.due("a DAY on", x.pourOf(0, 1), 3);
        Due.rule(x, "pour 1 if heat=5 and day=2");
        x.force(2);
        x.day();
        Due.due("no ice", x.pourOf(0, 1), 4);
        x = Due.made("town 20 50 0;house 9;house 5;join 1 0 1", "pour 1 if one=0 and other=1 and place=9 and placeo=5 and apart=4 and rock=0 and rocko=0");
        x.day();
        Due.due("the less number is the one", x.pourOf(0, 1), 2);
    }

    private static void tests() {
        Due.holds("1<2", true);
        Due.holds("2<2", false);
        Due.holds("2<=2", true);
        Due.holds("3<=2", false);
        Due.holds("2=2", true);
        Due.holds("1=2", false);
        Due.holds("2>=2", true);
        Due.holds("1>=2", false);
        Due.holds("3>2", true);
        Due.holds("2>2", false);
        Due.holds("not 1=2", true);
        Due.holds("not not 1=2", false);
        Due.holds("not 1=2 and 1=2", false);
        Due.holds("not [1=2 and 1=2]", true);
        Due.holds("1=1 or 1=1 and 1=2", true);
        Due.holds("[1=1 or 1=1] and 1=2", false);
        Due.holds("1=2 and 1=1 or 1=1", true);
        Due.holds("1=2 and [1=1 or 1=1]", false);
        Due.holds("1=2 or 1=2 or 1=1", true);
        Due.holds("1=2 or 1=1 and 2=2 and 3=4", false);
        Due.holds("1=2 or 1=1 and 2=2 and 3=3 or 1=2", true);
        Due.holds("not [1=2 or not [2=2]]", true);
        ToffeeTown x = Due.made("town 20 50 0;house 0;house 5;house 9;join 0 1 1;join 1 2 1", "pour 0 if one=0;pour 7;pour 9");
        x.day();
        Due.due("the first CLAUSE that holds", x.pourOf(1, 2), 2);
        Due.due("the first CLAUSE that holds", x.pourOf(0, 1), 1);
    }

    private static void sums() {
        Due.holds("1+2*3=7", true);
        Due.holds("2*3+1=7", true);
        Due.holds("10-3-2=5", true);
        Due.holds("100/7/2=7", true);
        Due.holds("100%7*3=6", true);
        Due.holds("7/0=0", true);
        Due.holds("7%0=0", true);
        Due.holds("7/0+1=1", true);
        Due.holds("0-7<0", true);
        Due.holds("1-2*4/3=0-1", true);
        // 2 to the 63 is the least number, twice that is 0
        Due.holds("32768*32768*32768*32768*8<0", true);
        Due.holds("32768*32768*32768*32768*8-1>0", true);
        Due.holds("32768*32768*32768*32768*16=0", true);
        // of the least number: towards 0, and its rest of the same sign
        Due.holds("32768*32768*32768*32768*8/5=0-32768*32768*32768*32768*8/5", false);
        Due.holds("32768*32768*32768*32768*8%10=0-8", true);
        Due.holds("32768*32768*32768*32768*8/32768/32768/32768/32768/3=0-2", true);
    }

    /** Free by the document, which promises 512 calls: but DAY 999 is not to be seen in fewer. */
    private static void lastDay() {
        ToffeeTown x = Due.made("town 20 50 0;heat 0;heat 1;house 0;rock 0 9", null);
        for (int day = 0; day < 999; day++) {
            if (x.day() != 0) {
                Due.due("day " + day, -9, 0);
            }
        }
        Due.due("DAY", x.count(6), 999);
        Due.due("beyond 999", x.day(), -1);
        Due.due("DAY", x.count(6), 999);
        Due.due("ACTS", x.count(13), 20);
        Due.due("DAYS go on in what is asked", x.ahead(0, 100, 0), 0);
        Due.due("undo", x.undo(), 19);
        Due.due("DAY", x.count(6), 998);
        Due.due("the last DAY", x.day(), 0);
    }
}
