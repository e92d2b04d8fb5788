/** Terms I: the edges of a RULE's text, and of what its SUMS and TESTS are worth. */
final class EdgesOfRules {
    private EdgesOfRules() {
    }

    static void all() {
        clauses();
        pour();
        tests();
        parts();
        facts();
        sums();
        terms();
        numbers();
        words();
        twos();
        ofTheOne();
        apart();
        rocks();
        heat();
        next();
        divisions();
        goingRound();
        blanks();
        depth();
        sixty();
    }

    private static void clauses() {
        Doc.terms("RULES 0 to 5: texts likewise, 12 CLAUSES at most");
        ToffeeTown x = new ToffeeTown();
        for (int rule = 0; rule < 6; rule++) {
            Due.due("rule " + rule, Due.rule(x, "pour 1"), rule);
        }
        Due.due("a seventh", Due.rule(x, "pour 1"), -1);
        String twelve = "pour 1" + Due.times(";pour 1", 11);
        Due.isRule(twelve);
        Due.noRule(twelve + ";@pour 1", Due.CLAUSE);
        Due.noRule(twelve + ";@", Due.WRONG);
        Due.noRule("@", Due.WRONG);
        Due.noRule("pour 1;@;pour 1", Due.WRONG);
        Due.isRule("pour 1" + Due.times(" ", 394));
        Due.noRule("pour 1" + Due.times(" ", 393) + ";@", Due.WRONG);
    }

    private static void pour() {
        Doc.terms("pour SUM [ if TEST ].");
        Due.isRule("pour 1");
        Due.isRule("pour 1 if 1=1");
        Due.noRule("pour@", Due.WRONG);
        Due.noRule("pour @if 1=1", Due.WRONG);
        Due.noRule("pour 1 if@", Due.WRONG);
        Due.noRule("pour 1 if @;pour 1", Due.WRONG);
        Due.noRule("pour 1 if 1=1 @if 1=1", Due.WRONG);
        Due.noRule("pour 1 @[ if 1=1 ]", Due.WRONG);
        Due.noRule("@if 1=1", Due.WRONG);
        Due.noRule("@heat 1", Due.WRONG);
    }

    private static void tests() {
        Doc.terms("TEST: PART { or PART }.");
        Due.holds("1=2 or 1=2", false);
        Due.holds("1=2 or 1=1", true);
        Due.holds("1=1 or 1=2", true);
        Due.holds("1=1 or 1=1", true);
        Due.noRule("pour 1 if 1=1 or@", Due.WRONG);
        Due.noRule("pour 1 if @or 1=1", Due.WRONG);
        Due.noRule("pour 1 if 1=1 or @or 1=1", Due.WRONG);
        Due.noRule("pour 1 if 1=1 @orr 1=1", Due.WRONG);
    }

    private static void parts() {
        Doc.terms("PART: FACT { and FACT }.");
        Due.holds("1=2 and 1=2", false);
        Due.holds("1=2 and 1=1", false);
        Due.holds("1=1 and 1=2", false);
        Due.holds("1=1 and 1=1", true);
        Due.holds("1=1 or 1=1 and 1=2", true);
        Due.holds("1=2 and 1=1 or 1=1", true);
        Due.noRule("pour 1 if 1=1 and@", Due.WRONG);
        Due.noRule("pour 1 if @and 1=1", Due.WRONG);
        Due.noRule("pour 1 if 1=1 or @and 1=1", Due.WRONG);
    }

    private static void facts() {
        Doc.terms("FACT: not FACT | [ TEST ] (these brackets are signs) | SUM SIGN SUM, SIGN one of < <= = >= >.");
        String[] signs = {"<", "<=", "=", ">=", ">"};
        boolean[][] holds = {{true, false, false}, {true, true, false}, {false, true, false}, {false, true, true}, {false, false, true}};
        for (int sign = 0; sign < 5; sign++) {
            for (int left = 1; left <= 3; left++) {
                Due.holds(left + signs[sign] + 2, holds[sign][left - 1]);
            }
        }
        Due.holds("not 1=2", true);
        Due.holds("not 1=2 and 1=2", false);
        Due.holds("[1=1 or 1=1] and 1=2", false);
        Due.noRule("pour 1 if [@]", Due.WRONG);
        Due.noRule("pour 1 if [1=1@", Due.WRONG);
        Due.noRule("pour 1 if 1=1@]", Due.WRONG);
        Due.noRule("pour 1 if [1=1]@]", Due.WRONG);
        Due.noRule("pour 1 if not@", Due.WRONG);
        Due.noRule("pour 1 if [1@]=1", Due.WRONG);
        Due.noRule("pour 1 if 1@", Due.WRONG);
        Due.noRule("pour 1 if 1<@", Due.WRONG);
        Due.noRule("pour 1 if 1<=@", Due.WRONG);
        Due.noRule("pour 1 if 1>=@", Due.WRONG);
        Due.noRule("pour 1 if 1=@", Due.WRONG);
        Due.noRule("pour 1 if @<1", Due.WRONG);
        Due.noRule("pour 1 if 1=@=1", Due.WRONG);
        Due.noRule("pour 1 if 1=@>1", Due.WRONG);
        Due.noRule("pour 1 if 1<=@=1", Due.WRONG);
        Due.noRule("pour 1 if 1<@>1", Due.WRONG);
        Due.noRule("pour 1 if 1=1@=1", Due.WRONG);
    }

    private static void sums() {
        Doc.terms("SUM: TERM { (+ or -) TERM }.");
        Due.holds("10-3-2=5", true);
        Due.holds("0-1<0", true);
        Due.holds("1-1=0", true);
        Due.holds("1+2*3=7", true);
        Due.noRule("pour 1+@", Due.WRONG);
        Due.noRule("pour @+1", Due.WRONG);
        Due.noRule("pour @-1", Due.WRONG);
        Due.noRule("pour 1-@-1", Due.WRONG);
    }

    private static void terms() {
        Doc.terms("TERM: VALUE { (* or / or %) VALUE }.");
        Due.holds("100/7/2=7", true);
        Due.holds("100%7*3=6", true);
        Due.holds("7*0=0", true);
        Due.noRule("pour 1*@", Due.WRONG);
        Due.noRule("pour @*1", Due.WRONG);
        Due.noRule("pour 1*@*1", Due.WRONG);
        Due.noRule("pour 1/@-1", Due.WRONG);
        Due.noRule("pour 1*@[1]", Due.WRONG);
    }

    private static void numbers() {
        Doc.terms("VALUE: NUMBER (1 to 5 digits, as far as digits go on) | WORD.");
        Due.holds("0=00000", true);
        Due.holds("99999-99998=1", true);
        Due.holds("00012=12", true);
        Due.noRule("pour @100000", Due.NUMBER);
        Due.noRule("pour @000000", Due.NUMBER);
        Due.noRule("pour 1 if 1<@123456", Due.NUMBER);
        Due.noRule("pour 12345 @6", Due.WRONG);
        Due.isRule("pour 1if1=1");
        Due.noRule("pour 7@hard", Due.WRONG);
    }

    private static void words() {
        Doc.terms("WORDS (small letters, as far as these go on)");
        String[] words = {"one", "other", "hard", "place", "placeo", "apart", "rock", "rocko", "heat", "next", "sugar", "day"};
        for (String word : words) {
            Due.isRule("pour " + word);
            Due.noRule("pour @" + word + "s", Due.WRONG);
            Due.noRule("pour @" + word.substring(0, 2), Due.WRONG);
            Due.noRule("pour @x" + word.substring(1), Due.WRONG);
            Due.noRule("pour @" + word.substring(0, word.length() - 1) + "x", Due.WRONG);
            Due.noRule("pour @" + word.substring(0, 1).toUpperCase() + word.substring(1), Due.WRONG);
        }
        Due.isRule("pour hard+1if hard=1");
        Due.noRule("pour @hardif 1=1", Due.WRONG);
        Due.noRule("pour hard@A", Due.WRONG);
        Due.noRule("pour place @o", Due.WRONG);
        for (String other : new String[] {"pour", "if", "or", "and", "not", "town", "house", "join"}) {
            Due.noRule("pour @" + other, Due.WRONG);
        }
    }

    /** The HARD of each two behind a DAY by that RULE. */
    private static void hardened(String rule, int of01, int of02, int of12) {
        ToffeeTown x = Due.made("town 20 50 0;house 9;house 5;house 1;join 1 0 8;join 0 2 9;join 2 1 7", rule);
        x.day();
        Due.due(rule + ": pourOf(0, 1)", x.pourOf(0, 1), of01);
        Due.due(rule + ": pourOf(0, 2)", x.pourOf(0, 2), of02);
        Due.due(rule + ": pourOf(1, 2)", x.pourOf(1, 2), of12);
    }

    private static void twos() {
        Doc.terms("of two HOUSES, one of less number than the other, with a pour between them of HARD below 9");
        hardened("pour 1 if one<other", 9, 9, 7);
        hardened("pour 1 if one>=other", 8, 9, 7);
        hardened("pour other", 8, 9, 8);
        hardened("pour 1 if other=2 and one=0", 8, 9, 7);
        hardened("pour 1 if hard=9", 8, 9, 7);
        hardened("pour 1 if hard=8", 9, 9, 7);
        hardened("pour 1 if hard=7", 8, 9, 8);
    }

    private static void ofTheOne() {
        Doc.terms("place, placeo (of the one, of the other)");
        hardened("pour 1 if place=9 and placeo=5", 9, 9, 7);
        hardened("pour 1 if place=5 and placeo=1", 8, 9, 8);
        hardened("pour 1 if place<placeo", 8, 9, 7);
    }

    private static void apart() {
        Doc.terms("apart (by how much these differ)");
        hardened("pour 1 if apart=4 and one=0", 9, 9, 7);
        hardened("pour 1 if apart<=0", 8, 9, 7);
        ToffeeTown x = Due.made("town 20 9 0;house 1;house 19;house 1;join 0 1 1;join 0 2 1", "pour 1 if apart=18");
        x.day();
        Due.answers(x, 2, "pourOf", 0, 1);
        Due.rule(x, "pour 1 if apart=0");
        x.force(1);
        x.day();
        Due.answers(x, 2, "pourOf", 0, 2);
    }

    private static void rocks() {
        Doc.terms("rock, rocko (0 without)");
        ToffeeTown x = Due.made("town 20 9 0;house 1;house 9;join 0 1 1;rock 1 9", "pour 1 if rock=0 and rocko=9");
        x.day();
        Due.answers(x, 2, "pourOf", 0, 1);
        x = Due.made("town 20 9 0;house 1;house 9;join 0 1 1;rock 0 1", "pour 1 if rock=1 and rocko=0");
        x.day();
        Due.answers(x, 2, "pourOf", 0, 1);
    }

    /** Whether the TEST holds on this DAY: HOUSES 0 and 1 are FAST. */
    private static void onDay(ToffeeTown x, int rule, String test, boolean want) {
        Due.due(test, Due.rule(x, "pour 1 if " + test), rule);
        x.force(rule);
        int was = x.pourOf(0, 1);
        x.day();
        Due.due(test, x.pourOf(0, 1), want ? was + 1 : was);
    }

    private static void heat() {
        Doc.terms("heat (of this DAY)");
        ToffeeTown x = Due.made("town 20 9 0;heat 5;heat 2;house 1;house 9;rock 0 9;rock 1 9;join 0 1 1", null);
        onDay(x, 0, "heat=5", true);
        onDay(x, 1, "heat=2", true);
        x.ice(2);
        onDay(x, 2, "heat=2", true);
        onDay(x, 3, "heat=0", true);
        onDay(x, 4, "heat=5", true);
    }

    private static void next() {
        Doc.terms("next (of the DAY behind it, as told)");
        ToffeeTown x = Due.made("town 20 9 0;heat 5;heat 2;heat 7;house 1;house 9;rock 0 9;rock 1 9;join 0 1 1", null);
        onDay(x, 0, "next=2", true);
        onDay(x, 1, "next=7", true);
        onDay(x, 2, "next=5", true);
        x.ice(9);
        onDay(x, 3, "next=2", true);
        x = Due.made("town 20 9 0;heat 4;house 1;house 9;rock 0 9;rock 1 9;join 0 1 1", null);
        onDay(x, 0, "next=4", true);
        x = Due.made("town 20 9 0;house 1;house 9;rock 0 9;rock 1 9;join 0 1 1", null);
        onDay(x, 0, "next=0", true);
    }

    private static void divisions() {
        Doc.terms("/ is towards 0, % its rest, both 0 by 0;");
        Due.holds("7/2=3", true);
        Due.holds("0-7/2=0-3", true);
        // A number below 0 must come from a TERM: 2 to the 63 goes round to it
        String least = "32768*32768*32768*32768*8";
        Due.holds(least + "/32768/32768/32768/32768/3=0-2", true);
        Due.holds(least + "%10=0-8", true);
        Due.holds(least + "%3=0-2", true);
        Due.holds("7%7=0", true);
        Due.holds("6%7=6", true);
        Due.holds("7/0=0", true);
        Due.holds("7%0=0", true);
        Due.holds("0/0=0", true);
        Due.holds("0%0=0", true);
        Due.holds(least + "/0=0", true);
        Due.holds(least + "%0=0", true);
        Due.holds("7/0*5+1=1", true);
    }

    private static void goingRound() {
        Doc.terms("all goes round in 64 bits.");
        String least = "32768*32768*32768*32768*8";
        Due.holds(least + "<0", true);
        Due.holds(least + "-1>0", true);
        Due.holds("0-" + least + "=" + least, true);
        Due.holds(least + "+" + least + "=0", true);
        Due.holds("32768*32768*32768*32768*16=0", true);
        Due.holds("32768*32768*32768*32768*7>0", true);
        Due.holds("65535*65537*65536*65536/65536/65536=0-1", true);
        Due.holds("99999*99999*99999*99999=99999*99999*99999*99999", true);
        // no 32 bits
        Due.holds("65536*65536>0", true);
        Due.holds("65536*32768>0", true);
        ToffeeTown x = Due.made("town 20 9 0;house 0;house 1;join 0 1 1", "pour " + least);
        x.day();
        Due.due("not above 0", x.pourOf(0, 1), 1);
        x = Due.made("town 20 9 0;house 0;house 1;join 0 1 1", "pour " + least + "-1");
        x.day();
        Due.due("above 0", x.pourOf(0, 1), 2);
    }

    private static void blanks() {
        Doc.terms("Blanks (32) stand between as one likes.");
        Due.isTown("   town   5   0   0   ;   house   4   ", 1);
        Due.isTown("town5 0 0;house4", 1);
        Due.isRule("  pour  1  +  hard  if  not  [  1  <=  2  ]  ;  pour  2  ");
        Due.isRule("pour1+hard if not[1<=2];pour2");
        for (int other : new int[] {0, 9, 10, 13, 31, 33, 160, 255}) {
            Due.noTown("town 5 0 0@" + (char) other, Due.WRONG);
            Due.noTown("town@" + (char) other + "5 0 0", Due.WRONG);
            Due.noRule("@" + (char) other + "pour 1", Due.WRONG);
            Due.noRule("pour 1@" + (char) other, Due.WRONG);
        }
        Due.noTown("@to wn 5 0 0", Due.WRONG);
        Due.noTown("town @1 0 0 0", Due.NUMBER);
        Due.noRule("pour 1 if 1< @=2", Due.WRONG);
    }

    private static void depth() {
        Doc.terms("[ and not lie within one another 10 deep at most;");
        Due.isRule("pour 1 if " + Due.times("[", 10) + "1=1" + Due.times("]", 10));
        Due.noRule("pour 1 if " + Due.times("[", 10) + "@[1=1" + Due.times("]", 11), Due.DEEP);
        Due.isRule("pour 1 if " + Due.times("not ", 10) + "1=1");
        Due.noRule("pour 1 if " + Due.times("not ", 10) + "@not 1=1", Due.DEEP);
        Due.isRule("pour 1 if " + Due.times("not[", 5) + "1=1" + Due.times("]", 5));
        Due.noRule("pour 1 if " + Due.times("not[", 5) + "@[1=1", Due.DEEP);
        Due.noRule("pour 1 if " + Due.times("[not ", 5) + "@not 1=1", Due.DEEP);
        // What lies beside one another is no deeper
        Due.isRule("pour 1 if " + Due.times("[1=1]and", 12) + " not 1=1 and not 1=1");
        String ten = Due.times("[", 10) + "1=1" + Due.times("]", 10);
        Due.isRule("pour 1 if " + ten + "or" + ten + "and" + ten + ";pour 1 if " + ten);
        Due.isRule("pour 1 if not not not not not not not not not not 1=1 or " + ten);
        Due.holds(Due.times("not ", 10) + "1=1", true);
        Due.holds(Due.times("not ", 9) + "1=1", false);
        Due.holds(Due.times("[1=2 or ", 10) + "1=1" + Due.times("]", 10), true);
        // Two FACTS wait at each depth, and a SUM behind them
        Due.holds(Due.times("1=2 or 1=1 and[", 8) + "[[1=2 or 3*3+4*4=5*5]]" + Due.times("]", 8), true);
        Due.holds(Due.times("1=2 or 1=1 and[", 8) + "[[1=2 or 3*3+4*4<5*5]]" + Due.times("]", 8), false);
    }

    private static void sixty() {
        Doc.terms("at most 60 VALUES (of SUMS) and FACTS made of a SIGN, together.");
        Due.isRule("pour 1" + Due.times("+1", 59));
        Due.noRule("pour 1" + Due.times("+1", 59) + "+@1", Due.MANY);
        Due.noRule("pour 1" + Due.times("+1", 59) + ";pour @1", Due.MANY);
        // 20 FACTS of three, and one VALUE less
        String facts = "pour 1 if 1=1" + Due.times("or 1=1", 18);
        Due.isRule(facts);
        Due.isRule(facts.replace("pour 1", "pour 1+1+1"));
        Due.noRule(facts.replace("pour 1", "pour 1+1+1") + "or @1=1", Due.MANY);
        Due.noRule(facts.replace("pour 1", "pour 1+1") + "or 1@=1", Due.MANY);
        Due.noRule(facts + "or 1=@1", Due.MANY);
        // not and brackets are none of these
        Due.isRule("pour 1" + Due.times("+1", 56) + " if not[not[1=1]]");
        // Of each RULE by itself, one with a FAULT, too
        ToffeeTown x = new ToffeeTown();
        for (int rule = 0; rule < 6; rule++) {
            Due.due("one too many", Due.rule(x, "pour 1" + Due.times("+1", 60)), Due.fault(125, Due.MANY));
            Due.due("a RULE of 60", Due.rule(x, "pour 1" + Due.times("+1", 59)), rule);
        }
        // Each of 12 CLAUSES: five together
        String five = "pour 1+1 if 1=1";
        Due.isRule(five + Due.times(";" + five, 11));
        Due.noRule("pour 1+1+1 if 1=1" + Due.times(";" + five, 10) + ";pour 1+1 if 1=@1", Due.MANY);
    }
}
