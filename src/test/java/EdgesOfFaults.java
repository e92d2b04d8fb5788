/** Terms I: the edges of FAULTS. */
final class EdgesOfFaults {
    private EdgesOfFaults() {
    }

    static void all() {
        first();
        cannotStand();
        numbers();
        deep();
        many();
        atItsSign();
        clauses();
        least();
    }

    private static void first() {
        Doc.terms("FAULTS, the first along the text, 1 + 8 * its place and");
        Due.due("place 0, kind 0", Due.town(new ToffeeTown(), "x"), -3);
        Due.due("place 5, kind 1", Due.town(new ToffeeTown(), "town 4 0 0"), -44);
        Due.due("place 400, kind 0", Due.town(new ToffeeTown(), "town 5 0 0" + Due.times(" ", 389) + ";"), -3 - 8 * 400);
        Due.noTown("town @4 100 10;town;heat x", Due.NUMBER);
        Due.noTown("town 5 0 0;@town 4;heat 10", Due.CLAUSE);
        Due.noTown("town 5 0 0@x;heat 10", Due.WRONG);
        Due.noRule("pour @100000 x", Due.NUMBER);
        Due.noRule("pour 1 if " + Due.times("[", 10) + "@[x", Due.DEEP);
        // What is behind comes first neither by its kind nor by its sort
        Due.noRule("pour 1" + Due.times("+1", 59) + "+@1 x", Due.MANY);
        Due.noRule("pour 1 @x" + Due.times("+1", 60), Due.WRONG);
    }

    private static void cannotStand() {
        Doc.terms("0 a byte or WORD that can't stand there, or the end (behind the last byte);");
        Due.noTown("@", Due.WRONG);
        Due.noTown("   @", Due.WRONG);
        Due.noTown("town@", Due.WRONG);
        Due.noTown("town   @", Due.WRONG);
        Due.noTown("town 5 0 0;@", Due.WRONG);
        Due.noTown("town 5 0 0;   @", Due.WRONG);
        Due.noTown("town 5 0 0;@hous 1", Due.WRONG);
        Due.noTown("town 5 0 0;house @house", Due.WRONG);
        Due.noTown("town 5 0 0;house 1@,", Due.WRONG);
        Due.noTown("town 5 0 0@" + (char) 255, Due.WRONG);
        Due.noTown("town 5 0 0@" + (char) 0, Due.WRONG);
        Due.noRule("@", Due.WRONG);
        Due.noRule("pour 1 if @", Due.WRONG);
        Due.noRule("pour 1 if 1@", Due.WRONG);
        Due.noRule("pour 1 if 1=1  or  @", Due.WRONG);
        Due.noRule("pour 1 if [1=1@", Due.WRONG);
        Due.noRule("pour 1 @harder", Due.WRONG);
        Due.noRule("pour @(1)", Due.WRONG);
    }

    private static void numbers() {
        Doc.terms("1 a NUMBER of more digits, or not as told (of join the second HOUSE, if it is the first);");
        Due.noTown("town @000005 0 0", Due.NUMBER);
        Due.noTown("town 5 0 @" + Due.times("9", 391), Due.NUMBER);
        Due.noTown("town 5 0 0;house @00005", Due.NUMBER);
        Due.noTown("town 5 0 0;house 0;house 1;join 0 @0 99", Due.NUMBER);
        Due.noTown("town 5 0 0;house 0;house 1;join 1 @00001 99", Due.NUMBER);
        Due.noTown("town 5 0 0;house 0;house 1;join @2 2 9", Due.NUMBER);
        Due.noTown("town 5 0 0;house 0;house 1;join 0 @2 99", Due.NUMBER);
        Due.noRule("pour @999999", Due.NUMBER);
        Due.noRule("pour @" + Due.times("0", 395), Due.NUMBER);
    }

    private static void deep() {
        Doc.terms("2 too deep (at the sign that opens, or the word not);");
        Due.noRule("pour 1 if " + Due.times("[", 10) + "   @[", Due.DEEP);
        Due.noRule("pour 1 if " + Due.times("[", 10) + "   @not", Due.DEEP);
        Due.noRule("pour 1 if " + Due.times("[", 10) + "1=1 or @[", Due.DEEP);
        Due.noRule("pour 1 if " + Due.times("[", 10) + "1=1] and [1=1 and @not 1=1", Due.DEEP);
        Due.noRule("pour 1 if " + Due.times("[", 10) + "@nots", Due.WRONG);
        Due.noRule("pour 1 if " + Due.times("not ", 10) + "@]", Due.WRONG);
    }

    private static void many() {
        Doc.terms("3 one VALUE or FACT too many (at its first byte;");
        String sixty = "pour 1" + Due.times("+1", 59);
        Due.noRule(sixty + "+  @12345", Due.MANY);
        Due.noRule(sixty + "+  @placeo", Due.MANY);
        Due.noRule(sixty + " if @1=1", Due.MANY);
        Due.noRule(sixty + " if not[@1=1]", Due.MANY);
    }

    private static void atItsSign() {
        Doc.terms("of a FACT at its SIGN);");
        String fiftyNine = "pour 1" + Due.times("+1", 58);
        Due.noRule(fiftyNine + " if 1@=1", Due.MANY);
        Due.noRule(fiftyNine + " if 12   @<=1", Due.MANY);
        Due.noRule(fiftyNine + " if 12   @>=   x", Due.MANY);
        Due.noRule(fiftyNine + " if 12   @]", Due.WRONG);
        String fiftyEight = "pour 1" + Due.times("+1", 57);
        Due.noRule(fiftyEight + " if 1=@1", Due.MANY);
        Due.isRule("pour 1" + Due.times("+1", 56) + " if 1=1");
    }

    private static void clauses() {
        Doc.terms("4 one CLAUSE too many, a second town, another CLAUSE ahead of it, a thirteenth heat, a seventh HOUSE (at its first byte).");
        String forty = "town 5 0 0;house 0" + Due.times(";rock0 1", 38);
        for (String clause : new String[] {"town", "heat", "house", "join", "rock"}) {
            Due.noTown(forty + ";  @" + clause, Due.CLAUSE);
        }
        Due.noTown("town 5 0 0;  @town", Due.CLAUSE);
        for (String clause : new String[] {"heat", "house", "join", "rock"}) {
            Due.noTown("  @" + clause, Due.CLAUSE);
        }
        Due.isTown("town 5 0 0" + Due.times(";heat 1", 12), 0);
        Due.noTown("town 5 0 0" + Due.times(";heat 1", 12) + ";  @heat", Due.CLAUSE);
        Due.isTown("town 5 0 0" + Due.times(";house 1", 6), 6);
        Due.noTown("town 5 0 0" + Due.times(";house 1", 6) + ";  @house", Due.CLAUSE);
        Due.noRule("pour 1" + Due.times(";pour 1", 11) + ";  @pour", Due.CLAUSE);
    }

    private static void least() {
        Doc.terms("Of one place the least.");
        String forty = "town 5 0 0;house 0" + Due.times(";rock0 1", 38);
        Due.noTown(forty + ";@7", Due.WRONG);
        Due.noTown(forty + ";@rocks", Due.WRONG);
        Due.noTown(forty + ";@", Due.WRONG);
        Due.noTown("town 5 0 0 @123456", Due.WRONG);
        Due.noTown("@pour 1", Due.WRONG);
        String sixty = "pour 1" + Due.times("+1", 59);
        Due.noRule(sixty + "+@123456", Due.NUMBER);
        Due.noRule(sixty + "+@x", Due.WRONG);
        Due.noRule(sixty + "+@", Due.WRONG);
        Due.noRule("pour 1" + Due.times(";pour 1", 11) + ";@pours", Due.WRONG);
        Due.noRule("pour 1 @123456", Due.WRONG);
        // Too deep is at the sign, and one VALUE too many behind it
        Due.noRule(sixty + " if " + Due.times("[", 10) + "@[1=1", Due.DEEP);
    }
}
