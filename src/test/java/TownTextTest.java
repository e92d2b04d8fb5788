/** Promise 4: town, and the FAULTS of its text. */
public final class TownTextTest {
    public static void main(String[] args) {
        told();
        replaced();
        faultsOfBytes();
        faultsOfNumbers();
        faultsOfClauses();
        fortyClauses();
        Due.end();
    }

    private static void told() {
        ToffeeTown x = new ToffeeTown();
        Due.due("blanks or none", Due.town(x, "  town10 6  4;heat2 ; heat 00005;house1;house 3;join0 1 3;join 1 0 7;rock1 4;rock 1 2  "), 2);
        Due.due("HILL", x.count(0), 10);
        Due.due("SUGAR", x.count(8), 6);
        Due.due("STICK", x.count(1), 4);
        Due.due("heats", x.count(2), 2);
        Due.due("HOUSES", x.count(3), 2);
        Due.due("the last join told", x.pourOf(0, 1), 7);
        Due.due("the last rock told", x.house(1, 1), 2);
        Due.due("without rock", x.house(0, 1), 0);
        Due.due("first heat", x.count(7), 2);
        Due.due("without houses", Due.town(new ToffeeTown(), "town 5 0 0"), 0);
        Due.due("the edges", Due.town(new ToffeeTown(), "town 60 99 9;house 59;house 0;join 1 0 9;rock 0 9;heat 9;heat 0"), 2);
        x = Due.made("town 5 0 0;house 4", null);
        Due.due("without heats", x.count(7), 0);
        x.day();
        Due.due("without heats", x.count(7), 0);
    }

    private static void replaced() {
        ToffeeTown x = Due.made("town 10 6 4;heat 2;house 1;house 3;join 0 1 3", "pour 1");
        x.seed(77);
        x.note(0, 0, 1);
        x.ice(3);
        x.day();
        Due.due("a FAULT", Due.town(x, "town 10 6 4;heat"), Due.fault(16, 0));
        Due.due("HOUSES stay", x.count(3), 2);
        Due.due("DAY stays", x.count(6), 1);
        Due.due("NOTES stay", x.count(12), 1);
        Due.due("ACTS stay", x.count(13), 2);
        Due.due("the TAPE is empty", x.count(15), 0);
        Due.due("another", Due.town(x, "town 20 5 0;house 9"), 1);
        Due.due("HILL", x.count(0), 20);
        Due.due("DAY", x.count(6), 0);
        Due.due("ice", x.count(9), 0);
        Due.due("heats", x.count(2), 0);
        Due.due("NOTES", x.count(12), 0);
        Due.due("ACTS", x.count(13), 0);
        Due.due("undo", x.undo(), -2);
        Due.due("the RULE IN FORCE stays", x.count(5), 0);
        Due.due("x stays", x.count(14), 77);
        Due.due("a new HOUSE", Due.town(x, "town 20 5 0;house 9;house 8"), 2);
        Due.due("no pour of the one before", x.pourOf(0, 1), 0);
    }

    private static void faultsOfBytes() {
        Due.townFault("", 0, 0);
        Due.townFault("   ", 3, 0);
        Due.townFault(";", 0, 0);
        Due.townFault("5", 0, 0);
        Due.townFault("towns 5 0 0", 0, 0);
        Due.townFault("Town 5 0 0", 0, 0);
        Due.townFault("tow", 0, 0);
        Due.townFault("town", 4, 0);
        Due.townFault("town  ", 6, 0);
        Due.townFault("town 5 0", 8, 0);
        Due.townFault("town 5 0 0;", 11, 0);
        Due.townFault("town 5 0 0; ", 12, 0);
        Due.townFault("town 5 0 0;;", 11, 0);
        Due.townFault("town 5 0 0 0", 11, 0);
        Due.townFault("town 5 0 0 heat 5", 11, 0);
        Due.townFault("town 5x0 0", 6, 0);
        Due.townFault("town -5 0 0", 5, 0);
        Due.townFault("town 5 0 0\n", 10, 0);
        Due.townFault("town 5 0 0" + (char) 233, 10, 0);
        Due.townFault("town 5 0 0" + (char) 0, 10, 0);
        Due.townFault("town 5 0 0;pour 1", 11, 0);
        Due.townFault("town 5 0 0;heat heat", 16, 0);
        Due.townFault("pour 1", 0, 0);
    }

    private static void faultsOfNumbers() {
        Due.townFault("town 4 0 0", 5, 1);
        Due.townFault("town 61 0 0", 5, 1);
        Due.townFault("town 000005 0 0", 5, 1);
        Due.townFault("town 5 100 0", 7, 1);
        Due.townFault("town 5 0 10", 9, 1);
        Due.townFault("town 5 0 99999999999", 9, 1);
        Due.townFault("town 5 0 0;heat 10", 16, 1);
        Due.townFault("town 5 0 0;house 5", 17, 1);
        Due.townFault("town 5 0 0;join 0 1 1;house 0;house 1", 16, 1);
        Due.townFault("town 5 0 0;house 0;join 0 1 1;house 1", 26, 1);
        Due.townFault("town 5 0 0;house 0;house 1;join 1 1 1", 34, 1);
        Due.townFault("town 5 0 0;house 0;house 1;join 1 01 1", 34, 1);
        Due.townFault("town 5 0 0;house 0;house 1;join 2 1 1", 32, 1);
        Due.townFault("town 5 0 0;house 0;house 1;join 1 0 0", 36, 1);
        Due.townFault("town 5 0 0;house 0;house 1;join 1 0 10", 36, 1);
        Due.townFault("town 5 0 0;rock 0 1;house 0", 16, 1);
        Due.townFault("town 5 0 0;house 0;rock 0 0", 26, 1);
        Due.townFault("town 5 0 0;house 0;rock 0 10", 26, 1);
        Due.townFault("town 5 0 0;house 0;rock 1 9", 24, 1);
    }

    private static void faultsOfClauses() {
        Due.townFault("house 1", 0, 4);
        Due.townFault("  heat 1", 2, 4);
        Due.townFault("join", 0, 4);
        Due.townFault("rock 99999999", 0, 4);
        Due.townFault("town 5 0 0; town 5 0 0", 12, 4);
        Due.townFault("town 5 0 0" + Due.times(";heat 9", 13), 11 + 12 * 7, 4);
        Due.townFault("town 5 0 0" + Due.times(";house 0", 7), 11 + 6 * 8, 4);
        Due.due("12 heats", Due.town(new ToffeeTown(), "town 5 0 0" + Due.times(";heat 9", 12)), 0);
        Due.due("6 HOUSES", Due.town(new ToffeeTown(), "town 5 0 0" + Due.times(";house 0", 6)), 6);
    }

    private static void fortyClauses() {
        String forty = "town 5 0 0;house0" + Due.times(";rock0 1", 38);
        Due.due("40 CLAUSES", Due.town(new ToffeeTown(), forty), 1);
        Due.townFault(forty + ";rock0 1", forty.length() + 1, 4);
        Due.townFault(forty + ";  rocks", forty.length() + 3, 0);
        Due.townFault(forty + ";7", forty.length() + 1, 0);
        Due.townFault(forty + "; ", forty.length() + 2, 0);
        String full = forty + Due.times(" ", 400 - forty.length());
        Due.due("400 bytes", Due.town(new ToffeeTown(), full), 1);
        Due.townFault("town 5 0 0" + Due.times(" ", 389) + ";", 400, 0);
    }
}
